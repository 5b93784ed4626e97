section
variable {Q : Option Value → AH → Prop} {S : AS → Prop} {len j : Nat} {h h1 : AH} {x5 x6 : Option Value}
theorem r_mark (hl : len ≤ 3584) (hj : j + 7 ≤ len) (w : Wld h) (e : hI h 1104 0 = nI len) (hN : LwS S len j) : Wps ρ1 (Cl ρ1 60) 262 Q S (m_L_law, 1318, [some (.ref 1103), some (.ref 0), some (.ref 235), some (.ref 261), some (.int (nI j)), x5, x6], [], 262, h) := by
  refine W_g 9999 400 rfl ?_
  refine W_c rfl (sc_at hl hj e 1 rfl (by decide)) ?_
  refine W_g 9999 400 rfl ?_
  refine W_c rfl (sc_at hl hj e 2 rfl (by decide)) ?_
  refine W_b rfl (fun c => ?_) (fun c => ?_)
  · refine W_g 9999 400 rfl ?_
    refine W_k (n1 := 262) (Cl.cm _) rfl rfl (Cl.cm _ _ _ _ _ _ _ _ (fun v h1 q => ?_) (t_mark w))
    obtain ⟨z, rfl, kp, k⟩ := q
    have e1 : hI h1 1104 0 = nI len := by rw [kp.2]; exact e
    refine W_g 9999 400 rfl ?_
    refine W_c rfl (sc_at hl hj e1 1 rfl (by decide)) ?_
    refine W_g 9999 400 rfl ?_
    refine W_c rfl (sc_at hl hj e1 2 rfl (by decide)) ?_
    refine W_bt rfl (by rw [kp.1]; exact c) ?_
    refine W_g 9999 400 rfl ?_
    rw [kp.1]
    refine W_k (n1 := 262) (Cl.cm _) rfl rfl (k _ (fun h2 kp2 w2 => ?_))
    refine W_bt rfl rfl ?_
    exact r_next w2 (by rw [kp2.2]; exact e) hN
  · refine W_g 9999 400 rfl ?_
    refine W_k (n1 := 262) (Cl.cm _) rfl rfl (Cl.cm _ _ _ _ _ _ _ _ (fun v h1 q => ?_) (t_mark w))
    obtain ⟨z, rfl, kp, k⟩ := q
    have e1 : hI h1 1104 0 = nI len := by rw [kp.2]; exact e
    refine W_g 9999 400 rfl ?_
    refine W_c rfl (sc_at hl hj e1 1 rfl (by decide)) ?_
    refine W_g 9999 400 rfl ?_
    refine W_c rfl (sc_at hl hj e1 2 rfl (by decide)) ?_
    refine W_bf rfl (by rw [kp.1]; exact c) ?_
    refine W_g 9999 400 rfl ?_
    rw [kp.1]
    refine W_k (n1 := 262) (Cl.cm _) rfl rfl (k _ (fun h2 kp2 w2 => ?_))
    refine W_bt rfl rfl ?_
    exact r_next w2 (by rw [kp2.2]; exact e) hN
theorem r_aft (hl : len ≤ 3584) (hj : j + 7 ≤ len) (e : hI h 1104 0 = nI len) (hN : LwS S len j) {b : Bool} {hx : AH} (hb : rsT (hI h 1103 (nI j + 1).toNatClampNeg) (hI h 1103 (nI j + 2).toNatClampNeg) (hI h 1103 (nI j + 3).toNatClampNeg) = b) (fx : Fr xM h hx) (hv : b = false → hJ hx 261 0 = (rsA (hI h 1103 (nI j + 1).toNatClampNeg) (hI h 1103 (nI j + 2).toNatClampNeg) (hI h 1103 (nI j + 3).toNatClampNeg)).toInt64) (w2 : Wld (wI hx 235 0 (b2i b))) : Wps ρ1 (Cl ρ1 60) 262 Q S (m_L_law, 1212, [some (.ref 1103), some (.ref 0), some (.ref 235), some (.ref 261), some (.int (nI j)), x5, x6], [.int (b2i b)], 262, hx) := by
  have kx := Kp.frM fx
  have e1 : hI hx 1104 0 = nI len := by rw [kx.2]; exact e
  refine W_g 9999 400 rfl ?_
  refine W_c rfl (sc_at hl hj e1 1 rfl (by decide)) ?_
  refine W_g 9999 400 rfl ?_
  refine W_c rfl (sc_at hl hj e1 2 rfl (by decide)) ?_
  refine W_g 9999 400 rfl ?_
  refine W_c rfl (sc_at hl hj e1 3 rfl (by decide)) ?_
  refine W_g 9999 400 rfl ?_
  rw [kx.1]
  refine W_k (n1 := 262) (Cl.cm _) rfl rfl (y_rests (d := 58) ?_)
  rw [hb]
  refine W_g 9999 400 rfl ?_
  refine W_k (n1 := 262) (Cl.cm _) rfl rfl (Cl_of (d := 59) rfl (Nat.le_refl _) rfl (W_g 9999 400 rfl (W_f rfl rfl ?_)))
  refine W_g 9999 400 rfl ?_
  refine W_bt rfl rfl ?_
  refine W_g 9999 400 rfl ?_
  cases b with
  | true =>
    refine W_bf rfl (by decide) ?_
    refine W_g 1396 400 rfl ?_
    exact r_next w2 e1 hN
  | false =>
    refine W_bt rfl rfl ?_
    refine W_g 9999 400 rfl ?_
    refine W_c rfl ⟨1, rfl, by decide, by unfold vp_in; decide⟩ ?_
    refine W_g 9999 400 rfl ?_
    refine W_bt rfl (lg_eq.mpr (hv rfl)) ?_
    refine W_g 1396 400 rfl ?_
    exact r_next w2 e1 hN
theorem r_after (hl : len ≤ 3584) (hj : j + 7 ≤ len) (w : Wld h) (e : hI h 1104 0 = nI len) (hN : LwS S len j) : Wps ρ1 (Cl ρ1 60) 262 Q S (m_L_law, 1212, [some (.ref 1103), some (.ref 0), some (.ref 235), some (.ref 261), some (.int (nI j)), x5, x6], [.int (b2i (rsT (hI h 1103 (nI j + 1).toNatClampNeg) (hI h 1103 (nI j + 2).toNatClampNeg) (hI h 1103 (nI j + 3).toNatClampNeg)))], 262, if rsT (hI h 1103 (nI j + 1).toNatClampNeg) (hI h 1103 (nI j + 2).toNatClampNeg) (hI h 1103 (nI j + 3).toNatClampNeg) = true then h else wJ h 261 0 (rsA (hI h 1103 (nI j + 1).toNatClampNeg) (hI h 1103 (nI j + 2).toNatClampNeg) (hI h 1103 (nI j + 3).toNatClampNeg)).toInt64) := by
  obtain ⟨L, S1, H, B, M, D, T, N, c, m, W, nD, wd⟩ := w
  cases hb : rsT (hI h 1103 (nI j + 1).toNatClampNeg) (hI h 1103 (nI j + 2).toNatClampNeg) (hI h 1103 (nI j + 3).toNatClampNeg) with
  | true =>
    exact r_aft hl hj e hN hb (Fr.refl xM h) (fun q => by cases q) ⟨L, S1, H, B, M, D, T, N, c.frM W.1 (f0 h _), m.thz _, W, nD, wd.frM (f0 h _)⟩
  | false =>
    have f1 : Fr xM h (wJ h 261 0 (rsA (hI h 1103 (nI j + 1).toNatClampNeg) (hI h 1103 (nI j + 2).toNatClampNeg) (hI h 1103 (nI j + 3).toNatClampNeg)).toInt64) := (Fr.refl xM h).wJ rfl
    have m1 : RM (wJ h 261 0 (rsA (hI h 1103 (nI j + 1).toNatClampNeg) (hI h 1103 (nI j + 2).toNatClampNeg) (hI h 1103 (nI j + 3).toNatClampNeg)).toInt64) L S1 H B M D T N := m.fr (X := fun q => Nat.beq q 261) ((Fr.refl (fun q => Nat.beq q 261) h).wJ rfl) (fun q h1 h2 => beq_f (by omega))
    exact r_aft hl hj e hN hb f1 (fun _ => rfl) ⟨L, S1, H, B, M, D, T, N, c.frM W.1 (f1.wI rfl), m1.thz _, W, nD, wd.frM (f1.wI rfl)⟩
theorem i_len (hl : len ≤ 3584) (hj : j ≤ len) (c : ¬ nI len - 7 < nI j) : j + 7 ≤ len := by
  rw [Int32.lt_iff_toInt_lt] at c
  rw [Int32.toInt_sub, nI_toInt (by omega), nI_toInt (by omega), show (7 : Int32).toInt = 7 by decide] at c
  have e : ((len : Int) - 7).bmod (2 ^ 32) = (len : Int) - 7 := by
    apply Int.bmod_eq_of_le <;> omega
  rw [e] at c
  omega
theorem w_round (hl : len ≤ 3584) (hj : j ≤ len) (w : Wld h) (e : hI h 1104 0 = nI len) (hN : j + 7 ≤ len → LwS S len j) (hR : j + 7 ≤ len → S (m_L_law, 1209, [some (.ref 1103), some (.ref 0), some (.ref 235), some (.ref 261), some (.int (nI j)), x5, x6], [.ref 261, .int (hI h 1103 (nI j + 3).toNatClampNeg), .int (hI h 1103 (nI j + 2).toNatClampNeg), .int (hI h 1103 (nI j + 1).toNatClampNeg), .ref 0], 262, h)) (hE : S (m_L_law, 1403, [some (.ref 1103), some (.ref 0), some (.ref 235), some (.ref 261), some (.int (nI j)), x5, x6], [.int 1], 262, h)) : Wps ρ1 (Cl ρ1 60) 262 Q S (m_L_law, 23, [some (.ref 1103), some (.ref 0), some (.ref 235), some (.ref 261), some (.int (nI j)), x5, x6], [], 262, h) := by
  refine W_g 9999 400 rfl ?_
  refine W_b rfl (fun c => ?_) (fun c => ?_)
  · refine W_g 1403 400 rfl ?_
    exact W_stop hE
  · rw [e] at c
    have hj7 := i_len hl hj c
    have hN := hN hj7
    refine W_g 9999 400 rfl ?_
    refine W_c rfl (sc_0 hl hj7 e) ?_
    refine W_g 9999 400 rfl ?_
    refine W_w rfl (fun t tt ht hz => ?_) (fun _ => r_next w e hN)
    match t, ht with
    | 0, ht => obtain rfl := Option.some.inj ht; exact r_feed hl hj7 w e hN
    | 1, ht => obtain rfl := Option.some.inj ht; exact r_province hl hj7 w e hN
    | 2, ht => obtain rfl := Option.some.inj ht; exact r_day hl hj7 w e hN
    | 3, ht => obtain rfl := Option.some.inj ht; exact r_person hl hj7 w e hN
    | 4, ht => obtain rfl := Option.some.inj ht; exact r_odds hl hj7 w e hN
    | 5, ht => obtain rfl := Option.some.inj ht; exact r_likes hl hj7 w e hN
    | 6, ht => obtain rfl := Option.some.inj ht; exact r_two hl hj7 w e hN
    | 7, ht => obtain rfl := Option.some.inj ht; exact r_say hl hj7 w e hN
    | 8, ht => obtain rfl := Option.some.inj ht; exact r_hush hl hj7 w e hN
    | 9, ht => obtain rfl := Option.some.inj ht; exact r_walk hl hj7 w e hN
    | 10, ht => obtain rfl := Option.some.inj ht; exact r_moment hl hj7 w e hN
    | 11, ht => obtain rfl := Option.some.inj ht; exact r_part hl hj7 w e hN
    | 12, ht => obtain rfl := Option.some.inj ht; exact r_keep hl hj7 w e hN
    | 13, ht => obtain rfl := Option.some.inj ht; exact r_undo hl hj7 w e hN
    | 14, ht => obtain rfl := Option.some.inj ht; exact r_judged hl hj7 w e hN
    | 15, ht => obtain rfl := Option.some.inj ht; exact r_bigamists hl hj7 w e hN
    | 16, ht => obtain rfl := Option.some.inj ht; exact r_mend hl hj7 w e hN
    | 17, ht => obtain rfl := Option.some.inj ht; exact r_chance hl hj7 w e hN
    | 18, ht => obtain rfl := Option.some.inj ht; exact r_within hl hj7 w e hN
    | 19, ht => obtain rfl := Option.some.inj ht; exact r_half hl hj7 w e hN
    | 20, ht => obtain rfl := Option.some.inj ht; exact r_safest hl hj7 w e hN
    | 21, ht => obtain rfl := Option.some.inj ht; exact r_haven hl hj7 w e hN
    | 22, ht => obtain rfl := Option.some.inj ht; exact r_matches hl hj7 w e hN
    | 23, ht => obtain rfl := Option.some.inj ht; exact r_code hl hj7 w e hN
    | 24, ht => obtain rfl := Option.some.inj ht; exact r_may hl hj7 w e hN
    | 25, ht => obtain rfl := Option.some.inj ht; exact r_rota hl hj7 w e hN
    | 26, ht => obtain rfl := Option.some.inj ht; exact r_company hl hj7 w e hN
    | 27, ht => obtain rfl := Option.some.inj ht; exact r_hear hl hj7 w e hN
    | 28, ht => obtain rfl := Option.some.inj ht; exact r_who hl hj7 w e hN
    | 29, ht => obtain rfl := Option.some.inj ht; exact r_likely hl hj7 w e hN
    | 30, ht => obtain rfl := Option.some.inj ht; exact r_ask hl hj7 w e hN
    | 31, ht => obtain rfl := Option.some.inj ht; exact r_rests hl hj7 e (hR hj7)
    | 32, ht => obtain rfl := Option.some.inj ht; exact r_generations hl hj7 w e hN
    | 33, ht => obtain rfl := Option.some.inj ht; exact r_mark hl hj7 w e hN
    | 34, ht => obtain rfl := Option.some.inj ht; exact r_count hl hj7 w e hN
    | t + 35, ht => exact absurd ht (by simp)
end
