/-! the law, a call a round -/
def LwS (S : AS → Prop) (len j : Nat) : Prop := ∀ (h' : AH) (x5 x6 : Option Value), Wld h' → hI h' 1104 0 = nI len → S (m_L_law, 23, [some (.ref 1103), some (.ref 0), some (.ref 235), some (.ref 261), some (.int (nI (j + 7))), x5, x6], [], 262, h')
section
variable {Q : Option Value → AH → Prop} {S : AS → Prop} {len j : Nat} {h h1 : AH} {x5 x6 : Option Value}
theorem sc_at (hl : len ≤ 3584) (hj : j + 7 ≤ len) (e : hI h 1104 0 = nI len) {z : Int32} (k : Nat) (hz : z = nI k) (hk : k < 7) : rAt h 1103 262 (nI j + z) := by
  refine Or.inr (Or.inr ⟨rfl, len, e, hl, ?_⟩)
  rw [ix_add (j := j) (k := k) rfl hz]
  intro q
  rcases q with q | q
  · exact nI_n0 (by omega) q
  · rw [nI_clamp (by omega)] at q
    omega
theorem sc_0 (hl : len ≤ 3584) (hj : j + 7 ≤ len) (e : hI h 1104 0 = nI len) : rAt h 1103 262 (nI j) := by
  refine Or.inr (Or.inr ⟨rfl, len, e, hl, ?_⟩)
  intro q
  rcases q with q | q
  · exact nI_n0 (by omega) q
  · rw [nI_clamp (by omega)] at q
    omega
theorem r_next (w : Wld h) (e : hI h 1104 0 = nI len) (hN : LwS S len j) : Wps ρ1 (Cl ρ1 60) 262 Q S (m_L_law, 1396, [some (.ref 1103), some (.ref 0), some (.ref 235), some (.ref 261), some (.int (nI j)), x5, x6], [], 262, h) := by
  refine W_g 23 400 rfl ?_
  rw [ix_add (a := nI j) (b := 7) (j := j) (k := 7) rfl rfl]
  exact W_stop (hN h x5 x6 w e)
theorem r_feed (hl : len ≤ 3584) (hj : j + 7 ≤ len) (w : Wld h) (e : hI h 1104 0 = nI len) (hN : LwS S len j) : Wps ρ1 (Cl ρ1 60) 262 Q S (m_L_law, 196, [some (.ref 1103), some (.ref 0), some (.ref 235), some (.ref 261), some (.int (nI j)), x5, x6], [], 262, h) := by
  refine W_g 9999 400 rfl ?_
  refine W_c rfl (sc_at hl hj e 1 rfl (by decide)) ?_
  refine W_g 9999 400 rfl ?_
  refine W_c rfl (sc_at hl hj e 2 rfl (by decide)) ?_
  refine W_g 9999 400 rfl ?_
  refine W_c rfl (sc_at hl hj e 3 rfl (by decide)) ?_
  refine W_g 9999 400 rfl ?_
  refine W_c rfl (sc_at hl hj e 4 rfl (by decide)) ?_
  refine W_g 9999 400 rfl ?_
  refine W_c rfl (sc_at hl hj e 5 rfl (by decide)) ?_
  refine W_g 9999 400 rfl ?_
  refine W_c rfl (sc_at hl hj e 6 rfl (by decide)) ?_
  refine W_g 9999 400 rfl ?_
  refine W_k (n1 := 262) (Cl.cm _) rfl rfl (Cl.cm _ _ _ _ _ _ _ _ (fun v h1 q => ?_) (t_feed w))
  obtain ⟨z, rfl, kp, k⟩ := q
  have e1 : hI h1 1104 0 = nI len := by rw [kp.2]; exact e
  refine W_g 9999 400 rfl ?_
  refine W_c rfl (sc_at hl hj e1 1 rfl (by decide)) ?_
  refine W_g 9999 400 rfl ?_
  refine W_c rfl (sc_at hl hj e1 2 rfl (by decide)) ?_
  refine W_g 9999 400 rfl ?_
  refine W_c rfl (sc_at hl hj e1 3 rfl (by decide)) ?_
  refine W_g 9999 400 rfl ?_
  refine W_c rfl (sc_at hl hj e1 4 rfl (by decide)) ?_
  refine W_g 9999 400 rfl ?_
  refine W_c rfl (sc_at hl hj e1 5 rfl (by decide)) ?_
  refine W_g 9999 400 rfl ?_
  refine W_c rfl (sc_at hl hj e1 6 rfl (by decide)) ?_
  refine W_g 9999 400 rfl ?_
  rw [kp.1]
  refine W_k (n1 := 262) (Cl.cm _) rfl rfl (k _ (fun h2 kp2 w2 => ?_))
  refine W_bt rfl rfl ?_
  exact r_next w2 (by rw [kp2.2]; exact e) hN
theorem r_province (hl : len ≤ 3584) (hj : j + 7 ≤ len) (w : Wld h) (e : hI h 1104 0 = nI len) (hN : LwS S len j) : Wps ρ1 (Cl ρ1 60) 262 Q S (m_L_law, 343, [some (.ref 1103), some (.ref 0), some (.ref 235), some (.ref 261), some (.int (nI j)), x5, x6], [], 262, h) := by
  refine W_g 9999 400 rfl ?_
  refine W_k (n1 := 262) (Cl.cm _) rfl rfl (Cl.cm _ _ _ _ _ _ _ _ (fun v h1 q => ?_) (t_province w))
  obtain ⟨z, rfl, kp, k⟩ := q
  have e1 : hI h1 1104 0 = nI len := by rw [kp.2]; exact e
  refine W_g 9999 400 rfl ?_
  refine W_k (n1 := 262) (Cl.cm _) rfl rfl (k _ (fun h2 kp2 w2 => ?_))
  refine W_bt rfl rfl ?_
  exact r_next w2 (by rw [kp2.2]; exact e) hN
theorem r_day (hl : len ≤ 3584) (hj : j + 7 ≤ len) (w : Wld h) (e : hI h 1104 0 = nI len) (hN : LwS S len j) : Wps ρ1 (Cl ρ1 60) 262 Q S (m_L_law, 356, [some (.ref 1103), some (.ref 0), some (.ref 235), some (.ref 261), some (.int (nI j)), x5, x6], [], 262, h) := by
  refine W_g 9999 400 rfl ?_
  refine W_k (n1 := 262) (Cl.cm _) rfl rfl (Cl.cm _ _ _ _ _ _ _ _ (fun v h1 q => ?_) (t_day w))
  obtain ⟨z, rfl, kp, k⟩ := q
  have e1 : hI h1 1104 0 = nI len := by rw [kp.2]; exact e
  refine W_g 9999 400 rfl ?_
  refine W_k (n1 := 262) (Cl.cm _) rfl rfl (k _ (fun h2 kp2 w2 => ?_))
  refine W_bt rfl rfl ?_
  exact r_next w2 (by rw [kp2.2]; exact e) hN
theorem r_person (hl : len ≤ 3584) (hj : j + 7 ≤ len) (w : Wld h) (e : hI h 1104 0 = nI len) (hN : LwS S len j) : Wps ρ1 (Cl ρ1 60) 262 Q S (m_L_law, 369, [some (.ref 1103), some (.ref 0), some (.ref 235), some (.ref 261), some (.int (nI j)), x5, x6], [], 262, h) := by
  refine W_g 9999 400 rfl ?_
  refine W_c rfl (sc_at hl hj e 1 rfl (by decide)) ?_
  refine W_g 9999 400 rfl ?_
  refine W_c rfl (sc_at hl hj e 2 rfl (by decide)) ?_
  refine W_g 9999 400 rfl ?_
  refine W_k (n1 := 262) (Cl.cm _) rfl rfl (Cl.cm _ _ _ _ _ _ _ _ (fun v h1 q => ?_) (t_person w))
  obtain ⟨z, rfl, kp, k⟩ := q
  have e1 : hI h1 1104 0 = nI len := by rw [kp.2]; exact e
  refine W_g 9999 400 rfl ?_
  refine W_c rfl (sc_at hl hj e1 1 rfl (by decide)) ?_
  refine W_g 9999 400 rfl ?_
  refine W_c rfl (sc_at hl hj e1 2 rfl (by decide)) ?_
  refine W_g 9999 400 rfl ?_
  rw [kp.1]
  refine W_k (n1 := 262) (Cl.cm _) rfl rfl (k _ (fun h2 kp2 w2 => ?_))
  refine W_bt rfl rfl ?_
  exact r_next w2 (by rw [kp2.2]; exact e) hN
theorem r_odds (hl : len ≤ 3584) (hj : j + 7 ≤ len) (w : Wld h) (e : hI h 1104 0 = nI len) (hN : LwS S len j) : Wps ρ1 (Cl ρ1 60) 262 Q S (m_L_law, 406, [some (.ref 1103), some (.ref 0), some (.ref 235), some (.ref 261), some (.int (nI j)), x5, x6], [], 262, h) := by
  refine W_g 9999 400 rfl ?_
  refine W_c rfl (sc_at hl hj e 1 rfl (by decide)) ?_
  refine W_g 9999 400 rfl ?_
  refine W_c rfl (sc_at hl hj e 2 rfl (by decide)) ?_
  refine W_g 9999 400 rfl ?_
  refine W_k (n1 := 262) (Cl.cm _) rfl rfl (Cl.cm _ _ _ _ _ _ _ _ (fun v h1 q => ?_) (t_odds w))
  obtain ⟨z, rfl, kp, k⟩ := q
  have e1 : hI h1 1104 0 = nI len := by rw [kp.2]; exact e
  refine W_g 9999 400 rfl ?_
  refine W_c rfl (sc_at hl hj e1 1 rfl (by decide)) ?_
  refine W_g 9999 400 rfl ?_
  refine W_c rfl (sc_at hl hj e1 2 rfl (by decide)) ?_
  refine W_g 9999 400 rfl ?_
  rw [kp.1]
  refine W_k (n1 := 262) (Cl.cm _) rfl rfl (k _ (fun h2 kp2 w2 => ?_))
  refine W_bt rfl rfl ?_
  exact r_next w2 (by rw [kp2.2]; exact e) hN
theorem r_likes (hl : len ≤ 3584) (hj : j + 7 ≤ len) (w : Wld h) (e : hI h 1104 0 = nI len) (hN : LwS S len j) : Wps ρ1 (Cl ρ1 60) 262 Q S (m_L_law, 443, [some (.ref 1103), some (.ref 0), some (.ref 235), some (.ref 261), some (.int (nI j)), x5, x6], [], 262, h) := by
  refine W_g 9999 400 rfl ?_
  refine W_c rfl (sc_at hl hj e 1 rfl (by decide)) ?_
  refine W_g 9999 400 rfl ?_
  refine W_c rfl (sc_at hl hj e 2 rfl (by decide)) ?_
  refine W_g 9999 400 rfl ?_
  refine W_k (n1 := 262) (Cl.cm _) rfl rfl (Cl.cm _ _ _ _ _ _ _ _ (fun v h1 q => ?_) (t_likes w))
  obtain ⟨z, rfl, kp, k⟩ := q
  have e1 : hI h1 1104 0 = nI len := by rw [kp.2]; exact e
  refine W_g 9999 400 rfl ?_
  refine W_c rfl (sc_at hl hj e1 1 rfl (by decide)) ?_
  refine W_g 9999 400 rfl ?_
  refine W_c rfl (sc_at hl hj e1 2 rfl (by decide)) ?_
  refine W_g 9999 400 rfl ?_
  rw [kp.1]
  refine W_k (n1 := 262) (Cl.cm _) rfl rfl (k _ (fun h2 kp2 w2 => ?_))
  refine W_bt rfl rfl ?_
  exact r_next w2 (by rw [kp2.2]; exact e) hN
theorem r_two (hl : len ≤ 3584) (hj : j + 7 ≤ len) (w : Wld h) (e : hI h 1104 0 = nI len) (hN : LwS S len j) : Wps ρ1 (Cl ρ1 60) 262 Q S (m_L_law, 480, [some (.ref 1103), some (.ref 0), some (.ref 235), some (.ref 261), some (.int (nI j)), x5, x6], [], 262, h) := by
  refine W_g 9999 400 rfl ?_
  refine W_c rfl (sc_at hl hj e 1 rfl (by decide)) ?_
  refine W_g 9999 400 rfl ?_
  refine W_c rfl (sc_at hl hj e 2 rfl (by decide)) ?_
  refine W_g 9999 400 rfl ?_
  refine W_c rfl (sc_at hl hj e 3 rfl (by decide)) ?_
  refine W_g 9999 400 rfl ?_
  refine W_k (n1 := 262) (Cl.cm _) rfl rfl (Cl.cm _ _ _ _ _ _ _ _ (fun v h1 q => ?_) (t_two w))
  obtain ⟨z, rfl, kp, k⟩ := q
  have e1 : hI h1 1104 0 = nI len := by rw [kp.2]; exact e
  refine W_g 9999 400 rfl ?_
  refine W_c rfl (sc_at hl hj e1 1 rfl (by decide)) ?_
  refine W_g 9999 400 rfl ?_
  refine W_c rfl (sc_at hl hj e1 2 rfl (by decide)) ?_
  refine W_g 9999 400 rfl ?_
  refine W_c rfl (sc_at hl hj e1 3 rfl (by decide)) ?_
  refine W_g 9999 400 rfl ?_
  rw [kp.1]
  refine W_k (n1 := 262) (Cl.cm _) rfl rfl (k _ (fun h2 kp2 w2 => ?_))
  refine W_bt rfl rfl ?_
  exact r_next w2 (by rw [kp2.2]; exact e) hN
theorem r_say (hl : len ≤ 3584) (hj : j + 7 ≤ len) (w : Wld h) (e : hI h 1104 0 = nI len) (hN : LwS S len j) : Wps ρ1 (Cl ρ1 60) 262 Q S (m_L_law, 529, [some (.ref 1103), some (.ref 0), some (.ref 235), some (.ref 261), some (.int (nI j)), x5, x6], [], 262, h) := by
  refine W_g 9999 400 rfl ?_
  refine W_c rfl (sc_at hl hj e 1 rfl (by decide)) ?_
  refine W_g 9999 400 rfl ?_
  refine W_c rfl (sc_at hl hj e 2 rfl (by decide)) ?_
  refine W_g 9999 400 rfl ?_
  refine W_k (n1 := 262) (Cl.cm _) rfl rfl (Cl.cm _ _ _ _ _ _ _ _ (fun v h1 q => ?_) (t_say w))
  obtain ⟨z, rfl, kp, k⟩ := q
  have e1 : hI h1 1104 0 = nI len := by rw [kp.2]; exact e
  refine W_g 9999 400 rfl ?_
  refine W_c rfl (sc_at hl hj e1 1 rfl (by decide)) ?_
  refine W_g 9999 400 rfl ?_
  refine W_c rfl (sc_at hl hj e1 2 rfl (by decide)) ?_
  refine W_g 9999 400 rfl ?_
  rw [kp.1]
  refine W_k (n1 := 262) (Cl.cm _) rfl rfl (k _ (fun h2 kp2 w2 => ?_))
  refine W_bt rfl rfl ?_
  exact r_next w2 (by rw [kp2.2]; exact e) hN
theorem r_hush (hl : len ≤ 3584) (hj : j + 7 ≤ len) (w : Wld h) (e : hI h 1104 0 = nI len) (hN : LwS S len j) : Wps ρ1 (Cl ρ1 60) 262 Q S (m_L_law, 566, [some (.ref 1103), some (.ref 0), some (.ref 235), some (.ref 261), some (.int (nI j)), x5, x6], [], 262, h) := by
  refine W_g 9999 400 rfl ?_
  refine W_c rfl (sc_at hl hj e 1 rfl (by decide)) ?_
  refine W_g 9999 400 rfl ?_
  refine W_k (n1 := 262) (Cl.cm _) rfl rfl (Cl.cm _ _ _ _ _ _ _ _ (fun v h1 q => ?_) (t_hush w))
  obtain ⟨z, rfl, kp, k⟩ := q
  have e1 : hI h1 1104 0 = nI len := by rw [kp.2]; exact e
  refine W_g 9999 400 rfl ?_
  refine W_c rfl (sc_at hl hj e1 1 rfl (by decide)) ?_
  refine W_g 9999 400 rfl ?_
  rw [kp.1]
  refine W_k (n1 := 262) (Cl.cm _) rfl rfl (k _ (fun h2 kp2 w2 => ?_))
  refine W_bt rfl rfl ?_
  exact r_next w2 (by rw [kp2.2]; exact e) hN
theorem r_walk (hl : len ≤ 3584) (hj : j + 7 ≤ len) (w : Wld h) (e : hI h 1104 0 = nI len) (hN : LwS S len j) : Wps ρ1 (Cl ρ1 60) 262 Q S (m_L_law, 591, [some (.ref 1103), some (.ref 0), some (.ref 235), some (.ref 261), some (.int (nI j)), x5, x6], [], 262, h) := by
  refine W_g 9999 400 rfl ?_
  refine W_c rfl (sc_at hl hj e 1 rfl (by decide)) ?_
  refine W_g 9999 400 rfl ?_
  refine W_c rfl (sc_at hl hj e 2 rfl (by decide)) ?_
  refine W_g 9999 400 rfl ?_
  refine W_k (n1 := 262) (Cl.cm _) rfl rfl (Cl.cm _ _ _ _ _ _ _ _ (fun v h1 q => ?_) (t_walk w))
  obtain ⟨z, rfl, kp, k⟩ := q
  have e1 : hI h1 1104 0 = nI len := by rw [kp.2]; exact e
  refine W_g 9999 400 rfl ?_
  refine W_c rfl (sc_at hl hj e1 1 rfl (by decide)) ?_
  refine W_g 9999 400 rfl ?_
  refine W_c rfl (sc_at hl hj e1 2 rfl (by decide)) ?_
  refine W_g 9999 400 rfl ?_
  rw [kp.1]
  refine W_k (n1 := 262) (Cl.cm _) rfl rfl (k _ (fun h2 kp2 w2 => ?_))
  refine W_bt rfl rfl ?_
  exact r_next w2 (by rw [kp2.2]; exact e) hN
theorem r_moment (hl : len ≤ 3584) (hj : j + 7 ≤ len) (w : Wld h) (e : hI h 1104 0 = nI len) (hN : LwS S len j) : Wps ρ1 (Cl ρ1 60) 262 Q S (m_L_law, 628, [some (.ref 1103), some (.ref 0), some (.ref 235), some (.ref 261), some (.int (nI j)), x5, x6], [], 262, h) := by
  refine W_g 9999 400 rfl ?_
  refine W_k (n1 := 262) (Cl.cm _) rfl rfl (Cl.cm _ _ _ _ _ _ _ _ (fun v h1 q => ?_) (t_moment w))
  obtain ⟨z, rfl, kp, k⟩ := q
  have e1 : hI h1 1104 0 = nI len := by rw [kp.2]; exact e
  refine W_g 9999 400 rfl ?_
  refine W_k (n1 := 262) (Cl.cm _) rfl rfl (k _ (fun h2 kp2 w2 => ?_))
  refine W_bt rfl rfl ?_
  exact r_next w2 (by rw [kp2.2]; exact e) hN
theorem r_part (hl : len ≤ 3584) (hj : j + 7 ≤ len) (w : Wld h) (e : hI h 1104 0 = nI len) (hN : LwS S len j) : Wps ρ1 (Cl ρ1 60) 262 Q S (m_L_law, 641, [some (.ref 1103), some (.ref 0), some (.ref 235), some (.ref 261), some (.int (nI j)), x5, x6], [], 262, h) := by
  refine W_g 9999 400 rfl ?_
  refine W_c rfl (sc_at hl hj e 1 rfl (by decide)) ?_
  refine W_g 9999 400 rfl ?_
  refine W_c rfl (sc_at hl hj e 2 rfl (by decide)) ?_
  refine W_g 9999 400 rfl ?_
  refine W_k (n1 := 262) (Cl.cm _) rfl rfl (Cl.cm _ _ _ _ _ _ _ _ (fun v h1 q => ?_) (t_part w))
  obtain ⟨z, rfl, kp, k⟩ := q
  have e1 : hI h1 1104 0 = nI len := by rw [kp.2]; exact e
  refine W_g 9999 400 rfl ?_
  refine W_c rfl (sc_at hl hj e1 1 rfl (by decide)) ?_
  refine W_g 9999 400 rfl ?_
  refine W_c rfl (sc_at hl hj e1 2 rfl (by decide)) ?_
  refine W_g 9999 400 rfl ?_
  rw [kp.1]
  refine W_k (n1 := 262) (Cl.cm _) rfl rfl (k _ (fun h2 kp2 w2 => ?_))
  refine W_bt rfl rfl ?_
  exact r_next w2 (by rw [kp2.2]; exact e) hN
theorem r_keep (hl : len ≤ 3584) (hj : j + 7 ≤ len) (w : Wld h) (e : hI h 1104 0 = nI len) (hN : LwS S len j) : Wps ρ1 (Cl ρ1 60) 262 Q S (m_L_law, 678, [some (.ref 1103), some (.ref 0), some (.ref 235), some (.ref 261), some (.int (nI j)), x5, x6], [], 262, h) := by
  refine W_g 9999 400 rfl ?_
  refine W_c rfl (sc_at hl hj e 1 rfl (by decide)) ?_
  refine W_g 9999 400 rfl ?_
  refine W_c rfl (sc_at hl hj e 2 rfl (by decide)) ?_
  refine W_g 9999 400 rfl ?_
  refine W_k (n1 := 262) (Cl.cm _) rfl rfl (Cl.cm _ _ _ _ _ _ _ _ (fun v h1 q => ?_) (t_keep w))
  obtain ⟨z, rfl, kp, k⟩ := q
  have e1 : hI h1 1104 0 = nI len := by rw [kp.2]; exact e
  refine W_g 9999 400 rfl ?_
  refine W_c rfl (sc_at hl hj e1 1 rfl (by decide)) ?_
  refine W_g 9999 400 rfl ?_
  refine W_c rfl (sc_at hl hj e1 2 rfl (by decide)) ?_
  refine W_g 9999 400 rfl ?_
  rw [kp.1]
  refine W_k (n1 := 262) (Cl.cm _) rfl rfl (k _ (fun h2 kp2 w2 => ?_))
  refine W_bt rfl rfl ?_
  exact r_next w2 (by rw [kp2.2]; exact e) hN
theorem r_undo (hl : len ≤ 3584) (hj : j + 7 ≤ len) (w : Wld h) (e : hI h 1104 0 = nI len) (hN : LwS S len j) : Wps ρ1 (Cl ρ1 60) 262 Q S (m_L_law, 715, [some (.ref 1103), some (.ref 0), some (.ref 235), some (.ref 261), some (.int (nI j)), x5, x6], [], 262, h) := by
  refine W_g 9999 400 rfl ?_
  refine W_k (n1 := 262) (Cl.cm _) rfl rfl (Cl.cm _ _ _ _ _ _ _ _ (fun v h1 q => ?_) (t_undo w))
  obtain ⟨z, rfl, kp, k⟩ := q
  have e1 : hI h1 1104 0 = nI len := by rw [kp.2]; exact e
  refine W_g 9999 400 rfl ?_
  refine W_k (n1 := 262) (Cl.cm _) rfl rfl (k _ (fun h2 kp2 w2 => ?_))
  refine W_bt rfl rfl ?_
  exact r_next w2 (by rw [kp2.2]; exact e) hN
theorem r_judged (hl : len ≤ 3584) (hj : j + 7 ≤ len) (w : Wld h) (e : hI h 1104 0 = nI len) (hN : LwS S len j) : Wps ρ1 (Cl ρ1 60) 262 Q S (m_L_law, 728, [some (.ref 1103), some (.ref 0), some (.ref 235), some (.ref 261), some (.int (nI j)), x5, x6], [], 262, h) := by
  refine W_g 9999 400 rfl ?_
  refine W_c rfl (sc_at hl hj e 1 rfl (by decide)) ?_
  refine W_g 9999 400 rfl ?_
  refine W_k (n1 := 262) (Cl.cm _) rfl rfl (Cl.cm _ _ _ _ _ _ _ _ (fun v h1 q => ?_) (t_judged w))
  obtain ⟨z, rfl, kp, k⟩ := q
  have e1 : hI h1 1104 0 = nI len := by rw [kp.2]; exact e
  refine W_g 9999 400 rfl ?_
  refine W_c rfl (sc_at hl hj e1 1 rfl (by decide)) ?_
  refine W_g 9999 400 rfl ?_
  rw [kp.1]
  refine W_k (n1 := 262) (Cl.cm _) rfl rfl (k _ (fun h2 kp2 w2 => ?_))
  refine W_bt rfl rfl ?_
  exact r_next w2 (by rw [kp2.2]; exact e) hN
theorem r_bigamists (hl : len ≤ 3584) (hj : j + 7 ≤ len) (w : Wld h) (e : hI h 1104 0 = nI len) (hN : LwS S len j) : Wps ρ1 (Cl ρ1 60) 262 Q S (m_L_law, 753, [some (.ref 1103), some (.ref 0), some (.ref 235), some (.ref 261), some (.int (nI j)), x5, x6], [], 262, h) := by
  refine W_g 9999 400 rfl ?_
  refine W_k (n1 := 262) (Cl.cm _) rfl rfl (Cl.cm _ _ _ _ _ _ _ _ (fun v h1 q => ?_) (t_bigamists w))
  obtain ⟨z, rfl, kp, k⟩ := q
  have e1 : hI h1 1104 0 = nI len := by rw [kp.2]; exact e
  refine W_g 9999 400 rfl ?_
  refine W_k (n1 := 262) (Cl.cm _) rfl rfl (k _ (fun h2 kp2 w2 => ?_))
  refine W_bt rfl rfl ?_
  exact r_next w2 (by rw [kp2.2]; exact e) hN
theorem r_mend (hl : len ≤ 3584) (hj : j + 7 ≤ len) (w : Wld h) (e : hI h 1104 0 = nI len) (hN : LwS S len j) : Wps ρ1 (Cl ρ1 60) 262 Q S (m_L_law, 766, [some (.ref 1103), some (.ref 0), some (.ref 235), some (.ref 261), some (.int (nI j)), x5, x6], [], 262, h) := by
  refine W_g 9999 400 rfl ?_
  refine W_c rfl (sc_at hl hj e 1 rfl (by decide)) ?_
  refine W_g 9999 400 rfl ?_
  refine W_k (n1 := 262) (Cl.cm _) rfl rfl (Cl.cm _ _ _ _ _ _ _ _ (fun v h1 q => ?_) (t_mend w))
  obtain ⟨z, rfl, kp, k⟩ := q
  have e1 : hI h1 1104 0 = nI len := by rw [kp.2]; exact e
  refine W_g 9999 400 rfl ?_
  refine W_c rfl (sc_at hl hj e1 1 rfl (by decide)) ?_
  refine W_g 9999 400 rfl ?_
  rw [kp.1]
  refine W_k (n1 := 262) (Cl.cm _) rfl rfl (k _ (fun h2 kp2 w2 => ?_))
  refine W_bt rfl rfl ?_
  exact r_next w2 (by rw [kp2.2]; exact e) hN
theorem r_chance (hl : len ≤ 3584) (hj : j + 7 ≤ len) (w : Wld h) (e : hI h 1104 0 = nI len) (hN : LwS S len j) : Wps ρ1 (Cl ρ1 60) 262 Q S (m_L_law, 791, [some (.ref 1103), some (.ref 0), some (.ref 235), some (.ref 261), some (.int (nI j)), x5, x6], [], 262, h) := by
  refine W_g 9999 400 rfl ?_
  refine W_c rfl (sc_at hl hj e 1 rfl (by decide)) ?_
  refine W_g 9999 400 rfl ?_
  refine W_c rfl (sc_at hl hj e 2 rfl (by decide)) ?_
  refine W_g 9999 400 rfl ?_
  refine W_k (n1 := 262) (Cl.cm _) rfl rfl (Cl.cm _ _ _ _ _ _ _ _ (fun v h1 q => ?_) (t_chance w))
  obtain ⟨z, rfl, kp, k⟩ := q
  have e1 : hI h1 1104 0 = nI len := by rw [kp.2]; exact e
  refine W_g 9999 400 rfl ?_
  refine W_c rfl (sc_at hl hj e1 1 rfl (by decide)) ?_
  refine W_g 9999 400 rfl ?_
  refine W_c rfl (sc_at hl hj e1 2 rfl (by decide)) ?_
  refine W_g 9999 400 rfl ?_
  rw [kp.1]
  refine W_k (n1 := 262) (Cl.cm _) rfl rfl (k _ (fun h2 kp2 w2 => ?_))
  refine W_bt rfl rfl ?_
  exact r_next w2 (by rw [kp2.2]; exact e) hN
theorem r_within (hl : len ≤ 3584) (hj : j + 7 ≤ len) (w : Wld h) (e : hI h 1104 0 = nI len) (hN : LwS S len j) : Wps ρ1 (Cl ρ1 60) 262 Q S (m_L_law, 828, [some (.ref 1103), some (.ref 0), some (.ref 235), some (.ref 261), some (.int (nI j)), x5, x6], [], 262, h) := by
  refine W_g 9999 400 rfl ?_
  refine W_c rfl (sc_at hl hj e 1 rfl (by decide)) ?_
  refine W_g 9999 400 rfl ?_
  refine W_c rfl (sc_at hl hj e 2 rfl (by decide)) ?_
  refine W_g 9999 400 rfl ?_
  refine W_c rfl (sc_at hl hj e 3 rfl (by decide)) ?_
  refine W_g 9999 400 rfl ?_
  refine W_k (n1 := 262) (Cl.cm _) rfl rfl (Cl.cm _ _ _ _ _ _ _ _ (fun v h1 q => ?_) (t_within w))
  obtain ⟨z, rfl, kp, k⟩ := q
  have e1 : hI h1 1104 0 = nI len := by rw [kp.2]; exact e
  refine W_g 9999 400 rfl ?_
  refine W_c rfl (sc_at hl hj e1 1 rfl (by decide)) ?_
  refine W_g 9999 400 rfl ?_
  refine W_c rfl (sc_at hl hj e1 2 rfl (by decide)) ?_
  refine W_g 9999 400 rfl ?_
  refine W_c rfl (sc_at hl hj e1 3 rfl (by decide)) ?_
  refine W_g 9999 400 rfl ?_
  rw [kp.1]
  refine W_k (n1 := 262) (Cl.cm _) rfl rfl (k _ (fun h2 kp2 w2 => ?_))
  refine W_bt rfl rfl ?_
  exact r_next w2 (by rw [kp2.2]; exact e) hN
theorem r_half (hl : len ≤ 3584) (hj : j + 7 ≤ len) (w : Wld h) (e : hI h 1104 0 = nI len) (hN : LwS S len j) : Wps ρ1 (Cl ρ1 60) 262 Q S (m_L_law, 877, [some (.ref 1103), some (.ref 0), some (.ref 235), some (.ref 261), some (.int (nI j)), x5, x6], [], 262, h) := by
  refine W_g 9999 400 rfl ?_
  refine W_c rfl (sc_at hl hj e 1 rfl (by decide)) ?_
  refine W_g 9999 400 rfl ?_
  refine W_c rfl (sc_at hl hj e 2 rfl (by decide)) ?_
  refine W_g 9999 400 rfl ?_
  refine W_k (n1 := 262) (Cl.cm _) rfl rfl (Cl.cm _ _ _ _ _ _ _ _ (fun v h1 q => ?_) (t_half w))
  obtain ⟨z, rfl, kp, k⟩ := q
  have e1 : hI h1 1104 0 = nI len := by rw [kp.2]; exact e
  refine W_g 9999 400 rfl ?_
  refine W_c rfl (sc_at hl hj e1 1 rfl (by decide)) ?_
  refine W_g 9999 400 rfl ?_
  refine W_c rfl (sc_at hl hj e1 2 rfl (by decide)) ?_
  refine W_g 9999 400 rfl ?_
  rw [kp.1]
  refine W_k (n1 := 262) (Cl.cm _) rfl rfl (k _ (fun h2 kp2 w2 => ?_))
  refine W_bt rfl rfl ?_
  exact r_next w2 (by rw [kp2.2]; exact e) hN
theorem r_safest (hl : len ≤ 3584) (hj : j + 7 ≤ len) (w : Wld h) (e : hI h 1104 0 = nI len) (hN : LwS S len j) : Wps ρ1 (Cl ρ1 60) 262 Q S (m_L_law, 914, [some (.ref 1103), some (.ref 0), some (.ref 235), some (.ref 261), some (.int (nI j)), x5, x6], [], 262, h) := by
  refine W_g 9999 400 rfl ?_
  refine W_c rfl (sc_at hl hj e 1 rfl (by decide)) ?_
  refine W_g 9999 400 rfl ?_
  refine W_k (n1 := 262) (Cl.cm _) rfl rfl (Cl.cm _ _ _ _ _ _ _ _ (fun v h1 q => ?_) (t_safest w))
  obtain ⟨z, rfl, kp, k⟩ := q
  have e1 : hI h1 1104 0 = nI len := by rw [kp.2]; exact e
  refine W_g 9999 400 rfl ?_
  refine W_c rfl (sc_at hl hj e1 1 rfl (by decide)) ?_
  refine W_g 9999 400 rfl ?_
  rw [kp.1]
  refine W_k (n1 := 262) (Cl.cm _) rfl rfl (k _ (fun h2 kp2 w2 => ?_))
  refine W_bt rfl rfl ?_
  exact r_next w2 (by rw [kp2.2]; exact e) hN
theorem r_haven (hl : len ≤ 3584) (hj : j + 7 ≤ len) (w : Wld h) (e : hI h 1104 0 = nI len) (hN : LwS S len j) : Wps ρ1 (Cl ρ1 60) 262 Q S (m_L_law, 939, [some (.ref 1103), some (.ref 0), some (.ref 235), some (.ref 261), some (.int (nI j)), x5, x6], [], 262, h) := by
  refine W_g 9999 400 rfl ?_
  refine W_c rfl (sc_at hl hj e 1 rfl (by decide)) ?_
  refine W_g 9999 400 rfl ?_
  refine W_k (n1 := 262) (Cl.cm _) rfl rfl (Cl.cm _ _ _ _ _ _ _ _ (fun v h1 q => ?_) (t_haven w))
  obtain ⟨z, rfl, kp, k⟩ := q
  have e1 : hI h1 1104 0 = nI len := by rw [kp.2]; exact e
  refine W_g 9999 400 rfl ?_
  refine W_c rfl (sc_at hl hj e1 1 rfl (by decide)) ?_
  refine W_g 9999 400 rfl ?_
  rw [kp.1]
  refine W_k (n1 := 262) (Cl.cm _) rfl rfl (k _ (fun h2 kp2 w2 => ?_))
  refine W_bt rfl rfl ?_
  exact r_next w2 (by rw [kp2.2]; exact e) hN
theorem r_matches (hl : len ≤ 3584) (hj : j + 7 ≤ len) (w : Wld h) (e : hI h 1104 0 = nI len) (hN : LwS S len j) : Wps ρ1 (Cl ρ1 60) 262 Q S (m_L_law, 964, [some (.ref 1103), some (.ref 0), some (.ref 235), some (.ref 261), some (.int (nI j)), x5, x6], [], 262, h) := by
  refine W_g 9999 400 rfl ?_
  refine W_c rfl (sc_at hl hj e 1 rfl (by decide)) ?_
  refine W_g 9999 400 rfl ?_
  refine W_k (n1 := 262) (Cl.cm _) rfl rfl (Cl.cm _ _ _ _ _ _ _ _ (fun v h1 q => ?_) (t_matches w))
  obtain ⟨z, rfl, kp, k⟩ := q
  have e1 : hI h1 1104 0 = nI len := by rw [kp.2]; exact e
  refine W_g 9999 400 rfl ?_
  refine W_c rfl (sc_at hl hj e1 1 rfl (by decide)) ?_
  refine W_g 9999 400 rfl ?_
  rw [kp.1]
  refine W_k (n1 := 262) (Cl.cm _) rfl rfl (k _ (fun h2 kp2 w2 => ?_))
  refine W_bt rfl rfl ?_
  exact r_next w2 (by rw [kp2.2]; exact e) hN
theorem r_code (hl : len ≤ 3584) (hj : j + 7 ≤ len) (w : Wld h) (e : hI h 1104 0 = nI len) (hN : LwS S len j) : Wps ρ1 (Cl ρ1 60) 262 Q S (m_L_law, 989, [some (.ref 1103), some (.ref 0), some (.ref 235), some (.ref 261), some (.int (nI j)), x5, x6], [], 262, h) := by
  refine W_g 9999 400 rfl ?_
  refine W_c rfl (sc_at hl hj e 1 rfl (by decide)) ?_
  refine W_g 9999 400 rfl ?_
  refine W_c rfl (sc_at hl hj e 2 rfl (by decide)) ?_
  refine W_g 9999 400 rfl ?_
  refine W_k (n1 := 262) (Cl.cm _) rfl rfl (Cl.cm _ _ _ _ _ _ _ _ (fun v h1 q => ?_) (t_code w))
  obtain ⟨z, rfl, kp, k⟩ := q
  have e1 : hI h1 1104 0 = nI len := by rw [kp.2]; exact e
  refine W_g 9999 400 rfl ?_
  refine W_c rfl (sc_at hl hj e1 1 rfl (by decide)) ?_
  refine W_g 9999 400 rfl ?_
  refine W_c rfl (sc_at hl hj e1 2 rfl (by decide)) ?_
  refine W_g 9999 400 rfl ?_
  rw [kp.1]
  refine W_k (n1 := 262) (Cl.cm _) rfl rfl (k _ (fun h2 kp2 w2 => ?_))
  refine W_bt rfl rfl ?_
  exact r_next w2 (by rw [kp2.2]; exact e) hN
theorem r_may (hl : len ≤ 3584) (hj : j + 7 ≤ len) (w : Wld h) (e : hI h 1104 0 = nI len) (hN : LwS S len j) : Wps ρ1 (Cl ρ1 60) 262 Q S (m_L_law, 1026, [some (.ref 1103), some (.ref 0), some (.ref 235), some (.ref 261), some (.int (nI j)), x5, x6], [], 262, h) := by
  refine W_g 9999 400 rfl ?_
  refine W_c rfl (sc_at hl hj e 1 rfl (by decide)) ?_
  refine W_g 9999 400 rfl ?_
  refine W_c rfl (sc_at hl hj e 2 rfl (by decide)) ?_
  refine W_g 9999 400 rfl ?_
  refine W_k (n1 := 262) (Cl.cm _) rfl rfl (Cl.cm _ _ _ _ _ _ _ _ (fun v h1 q => ?_) (t_may w))
  obtain ⟨z, rfl, kp, k⟩ := q
  have e1 : hI h1 1104 0 = nI len := by rw [kp.2]; exact e
  refine W_g 9999 400 rfl ?_
  refine W_c rfl (sc_at hl hj e1 1 rfl (by decide)) ?_
  refine W_g 9999 400 rfl ?_
  refine W_c rfl (sc_at hl hj e1 2 rfl (by decide)) ?_
  refine W_g 9999 400 rfl ?_
  rw [kp.1]
  refine W_k (n1 := 262) (Cl.cm _) rfl rfl (k _ (fun h2 kp2 w2 => ?_))
  refine W_bt rfl rfl ?_
  exact r_next w2 (by rw [kp2.2]; exact e) hN
theorem r_rota (hl : len ≤ 3584) (hj : j + 7 ≤ len) (w : Wld h) (e : hI h 1104 0 = nI len) (hN : LwS S len j) : Wps ρ1 (Cl ρ1 60) 262 Q S (m_L_law, 1063, [some (.ref 1103), some (.ref 0), some (.ref 235), some (.ref 261), some (.int (nI j)), x5, x6], [], 262, h) := by
  refine W_g 9999 400 rfl ?_
  refine W_c rfl (sc_at hl hj e 1 rfl (by decide)) ?_
  refine W_g 9999 400 rfl ?_
  refine W_c rfl (sc_at hl hj e 2 rfl (by decide)) ?_
  refine W_g 9999 400 rfl ?_
  refine W_k (n1 := 262) (Cl.cm _) rfl rfl (Cl.cm _ _ _ _ _ _ _ _ (fun v h1 q => ?_) (t_rota w))
  obtain ⟨z, rfl, kp, k⟩ := q
  have e1 : hI h1 1104 0 = nI len := by rw [kp.2]; exact e
  refine W_g 9999 400 rfl ?_
  refine W_c rfl (sc_at hl hj e1 1 rfl (by decide)) ?_
  refine W_g 9999 400 rfl ?_
  refine W_c rfl (sc_at hl hj e1 2 rfl (by decide)) ?_
  refine W_g 9999 400 rfl ?_
  rw [kp.1]
  refine W_k (n1 := 262) (Cl.cm _) rfl rfl (k _ (fun h2 kp2 w2 => ?_))
  refine W_bt rfl rfl ?_
  exact r_next w2 (by rw [kp2.2]; exact e) hN
theorem r_company (hl : len ≤ 3584) (hj : j + 7 ≤ len) (w : Wld h) (e : hI h 1104 0 = nI len) (hN : LwS S len j) : Wps ρ1 (Cl ρ1 60) 262 Q S (m_L_law, 1100, [some (.ref 1103), some (.ref 0), some (.ref 235), some (.ref 261), some (.int (nI j)), x5, x6], [], 262, h) := by
  refine W_g 9999 400 rfl ?_
  refine W_c rfl (sc_at hl hj e 1 rfl (by decide)) ?_
  refine W_g 9999 400 rfl ?_
  refine W_k (n1 := 262) (Cl.cm _) rfl rfl (Cl.cm _ _ _ _ _ _ _ _ (fun v h1 q => ?_) (t_company w))
  obtain ⟨z, rfl, kp, k⟩ := q
  have e1 : hI h1 1104 0 = nI len := by rw [kp.2]; exact e
  refine W_g 9999 400 rfl ?_
  refine W_c rfl (sc_at hl hj e1 1 rfl (by decide)) ?_
  refine W_g 9999 400 rfl ?_
  rw [kp.1]
  refine W_k (n1 := 262) (Cl.cm _) rfl rfl (k _ (fun h2 kp2 w2 => ?_))
  refine W_bt rfl rfl ?_
  exact r_next w2 (by rw [kp2.2]; exact e) hN
theorem r_hear (hl : len ≤ 3584) (hj : j + 7 ≤ len) (w : Wld h) (e : hI h 1104 0 = nI len) (hN : LwS S len j) : Wps ρ1 (Cl ρ1 60) 262 Q S (m_L_law, 1125, [some (.ref 1103), some (.ref 0), some (.ref 235), some (.ref 261), some (.int (nI j)), x5, x6], [], 262, h) := by
  refine W_g 9999 400 rfl ?_
  refine W_c rfl (sc_at hl hj e 1 rfl (by decide)) ?_
  refine W_g 9999 400 rfl ?_
  refine W_k (n1 := 262) (Cl.cm _) rfl rfl (Cl.cm _ _ _ _ _ _ _ _ (fun v h1 q => ?_) (t_hear w))
  obtain ⟨z, rfl, kp, k⟩ := q
  have e1 : hI h1 1104 0 = nI len := by rw [kp.2]; exact e
  refine W_g 9999 400 rfl ?_
  refine W_c rfl (sc_at hl hj e1 1 rfl (by decide)) ?_
  refine W_g 9999 400 rfl ?_
  rw [kp.1]
  refine W_k (n1 := 262) (Cl.cm _) rfl rfl (k _ (fun h2 kp2 w2 => ?_))
  refine W_bt rfl rfl ?_
  exact r_next w2 (by rw [kp2.2]; exact e) hN
theorem r_who (hl : len ≤ 3584) (hj : j + 7 ≤ len) (w : Wld h) (e : hI h 1104 0 = nI len) (hN : LwS S len j) : Wps ρ1 (Cl ρ1 60) 262 Q S (m_L_law, 1150, [some (.ref 1103), some (.ref 0), some (.ref 235), some (.ref 261), some (.int (nI j)), x5, x6], [], 262, h) := by
  refine W_g 9999 400 rfl ?_
  refine W_k (n1 := 262) (Cl.cm _) rfl rfl (Cl.cm _ _ _ _ _ _ _ _ (fun v h1 q => ?_) (t_who w))
  obtain ⟨z, rfl, kp, k⟩ := q
  have e1 : hI h1 1104 0 = nI len := by rw [kp.2]; exact e
  refine W_g 9999 400 rfl ?_
  refine W_k (n1 := 262) (Cl.cm _) rfl rfl (k _ (fun h2 kp2 w2 => ?_))
  refine W_bt rfl rfl ?_
  exact r_next w2 (by rw [kp2.2]; exact e) hN
theorem r_likely (hl : len ≤ 3584) (hj : j + 7 ≤ len) (w : Wld h) (e : hI h 1104 0 = nI len) (hN : LwS S len j) : Wps ρ1 (Cl ρ1 60) 262 Q S (m_L_law, 1163, [some (.ref 1103), some (.ref 0), some (.ref 235), some (.ref 261), some (.int (nI j)), x5, x6], [], 262, h) := by
  refine W_g 9999 400 rfl ?_
  refine W_k (n1 := 262) (Cl.cm _) rfl rfl (Cl.cm _ _ _ _ _ _ _ _ (fun v h1 q => ?_) (t_likely w))
  obtain ⟨z, rfl, kp, k⟩ := q
  have e1 : hI h1 1104 0 = nI len := by rw [kp.2]; exact e
  refine W_g 9999 400 rfl ?_
  refine W_k (n1 := 262) (Cl.cm _) rfl rfl (k _ (fun h2 kp2 w2 => ?_))
  refine W_bt rfl rfl ?_
  exact r_next w2 (by rw [kp2.2]; exact e) hN
theorem r_ask (hl : len ≤ 3584) (hj : j + 7 ≤ len) (w : Wld h) (e : hI h 1104 0 = nI len) (hN : LwS S len j) : Wps ρ1 (Cl ρ1 60) 262 Q S (m_L_law, 1176, [some (.ref 1103), some (.ref 0), some (.ref 235), some (.ref 261), some (.int (nI j)), x5, x6], [], 262, h) := by
  refine W_g 9999 400 rfl ?_
  refine W_k (n1 := 262) (Cl.cm _) rfl rfl (Cl.cm _ _ _ _ _ _ _ _ (fun v h1 q => ?_) (t_ask w))
  obtain ⟨z, rfl, kp, k⟩ := q
  have e1 : hI h1 1104 0 = nI len := by rw [kp.2]; exact e
  refine W_g 9999 400 rfl ?_
  refine W_k (n1 := 262) (Cl.cm _) rfl rfl (k _ (fun h2 kp2 w2 => ?_))
  refine W_bt rfl rfl ?_
  exact r_next w2 (by rw [kp2.2]; exact e) hN
theorem r_generations (hl : len ≤ 3584) (hj : j + 7 ≤ len) (w : Wld h) (e : hI h 1104 0 = nI len) (hN : LwS S len j) : Wps ρ1 (Cl ρ1 60) 262 Q S (m_L_law, 1269, [some (.ref 1103), some (.ref 0), some (.ref 235), some (.ref 261), some (.int (nI j)), x5, x6], [], 262, h) := by
  refine W_g 9999 400 rfl ?_
  refine W_c rfl (sc_at hl hj e 1 rfl (by decide)) ?_
  refine W_g 9999 400 rfl ?_
  refine W_c rfl (sc_at hl hj e 2 rfl (by decide)) ?_
  refine W_g 9999 400 rfl ?_
  refine W_c rfl (sc_at hl hj e 3 rfl (by decide)) ?_
  refine W_g 9999 400 rfl ?_
  refine W_k (n1 := 262) (Cl.cm _) rfl rfl (Cl.cm _ _ _ _ _ _ _ _ (fun v h1 q => ?_) (t_generations w))
  obtain ⟨z, rfl, kp, k⟩ := q
  have e1 : hI h1 1104 0 = nI len := by rw [kp.2]; exact e
  refine W_g 9999 400 rfl ?_
  refine W_c rfl (sc_at hl hj e1 1 rfl (by decide)) ?_
  refine W_g 9999 400 rfl ?_
  refine W_c rfl (sc_at hl hj e1 2 rfl (by decide)) ?_
  refine W_g 9999 400 rfl ?_
  refine W_c rfl (sc_at hl hj e1 3 rfl (by decide)) ?_
  refine W_g 9999 400 rfl ?_
  rw [kp.1]
  refine W_k (n1 := 262) (Cl.cm _) rfl rfl (k _ (fun h2 kp2 w2 => ?_))
  refine W_bt rfl rfl ?_
  exact r_next w2 (by rw [kp2.2]; exact e) hN
theorem r_count (hl : len ≤ 3584) (hj : j + 7 ≤ len) (w : Wld h) (e : hI h 1104 0 = nI len) (hN : LwS S len j) : Wps ρ1 (Cl ρ1 60) 262 Q S (m_L_law, 1371, [some (.ref 1103), some (.ref 0), some (.ref 235), some (.ref 261), some (.int (nI j)), x5, x6], [], 262, h) := by
  refine W_g 9999 400 rfl ?_
  refine W_c rfl (sc_at hl hj e 1 rfl (by decide)) ?_
  refine W_g 9999 400 rfl ?_
  refine W_k (n1 := 262) (Cl.cm _) rfl rfl (Cl.cm _ _ _ _ _ _ _ _ (fun v h1 q => ?_) (t_count w))
  obtain ⟨z, rfl, kp, k⟩ := q
  have e1 : hI h1 1104 0 = nI len := by rw [kp.2]; exact e
  refine W_g 9999 400 rfl ?_
  refine W_c rfl (sc_at hl hj e1 1 rfl (by decide)) ?_
  refine W_g 9999 400 rfl ?_
  rw [kp.1]
  refine W_k (n1 := 262) (Cl.cm _) rfl rfl (k _ (fun h2 kp2 w2 => ?_))
  refine W_bt rfl rfl ?_
  exact r_next w2 (by rw [kp2.2]; exact e) hN
theorem r_rests (hl : len ≤ 3584) (hj : j + 7 ≤ len) (e : hI h 1104 0 = nI len) (hR : S (m_L_law, 1209, [some (.ref 1103), some (.ref 0), some (.ref 235), some (.ref 261), some (.int (nI j)), x5, x6], [.ref 261, .int (hI h 1103 (nI j + 3).toNatClampNeg), .int (hI h 1103 (nI j + 2).toNatClampNeg), .int (hI h 1103 (nI j + 1).toNatClampNeg), .ref 0], 262, h)) : Wps ρ1 (Cl ρ1 60) 262 Q S (m_L_law, 1189, [some (.ref 1103), some (.ref 0), some (.ref 235), some (.ref 261), some (.int (nI j)), x5, x6], [], 262, h) := by
  refine W_g 9999 400 rfl ?_
  refine W_c rfl (sc_at hl hj e 1 rfl (by decide)) ?_
  refine W_g 9999 400 rfl ?_
  refine W_c rfl (sc_at hl hj e 2 rfl (by decide)) ?_
  refine W_g 9999 400 rfl ?_
  refine W_c rfl (sc_at hl hj e 3 rfl (by decide)) ?_
  refine W_g 1209 400 rfl ?_
  exact W_stop hR
end
