def ydy (q : Nat) : Bool := Nat.beq q 235 || Nat.beq q 248
/-- of the lines only those from a place on -/
def YL (m : Nat) (h h' : AH) : Prop := Fr ydy h h' ∧ F78 h h' ∧ ∀ j, j ≠ m → j ≠ m + 1 → hI h' 248 j = hI h 248 j
section
variable {d m : Nat} {h h' h'' : AH} {K : TKs} {s : RS} {N : SN'} {D : SD'} {T : ST'} {Q : Option Value → AH → Prop}
theorem YL.refl (h : AH) : YL m h h := ⟨Fr.refl _ h, fun _ _ _ => rfl, fun _ _ _ => rfl⟩
theorem YL.trans (a : YL m h h') (b : YL m h' h'') : YL m h h'' := ⟨a.1.trans b.1, fun k h7 h8 => (b.2.1 k h7 h8).trans (a.2.1 k h7 h8), fun j h1 h2 => (b.2.2 j h1 h2).trans (a.2.2 j h1 h2)⟩
theorem MR.l (a : MR h h') : YL m h h' := ⟨a.1.mono (fun q hq => by unfold ydy; rw [hq]; rfl), a.2, fun j _ _ => by rw [a.1.I rfl]⟩
theorem YL.w {j : Nat} (hj : j = m ∨ j = m + 1) (v : Int32) : YL m h (wI h 248 j v) := ⟨(Fr.refl _ h).wI rfl, fun _ _ _ => rfl, fun i h1 h2 => (wI_at _ _ _ _ _).trans (if_neg (by omega))⟩
theorem MF.l {j : Nat} {v : Int32} (c : MF h K s) : MF (wI h 248 j v) K s := c.fr (X := ydy) ((Fr.refl _ h).wI rfl) rfl rfl rfl rfl rfl rfl
theorem NmX.l {r : Bool} (x : NmX h r N) (y : YL m h h') : NmX h' r N := x.fr y.1 (y.2.1 19 (by decide) (by decide)) (y.2.1 18 (by decide) (by decide)) rfl rfl rfl rfl
theorem m_readDay {w t : Nat} (kO : TokOK K) (ht : t = 17 + w) (hw : w ≤ 5) (hm : m < 198) (c : MF h K s) (hN : NmX h false N) (nO : NmO N) (nD : NmD N) (h1 : ∀ h', YL m h h' → MF h' K (dl2 K N t (dl1 K N t s)).1 → ((dl2 K N t (dl1 K N t s)).1.2 = 0 → hI h' 248 m = (dl1 K N t s).2 ∧ hI h' 248 (m + 1) = (dl2 K N t (dl1 K N t s)).2) → Q none h') : Rc (d + 6) m_X13_readDay [.ref 235, .int (nI w), .int (nI m)] h Q := by
  obtain ⟨y, ey⟩ : ∃ y, y = dl1 K N t s := ⟨_, rfl⟩
  rw [← ey] at h1
  /- behind the first of the two -/
  have fin : ∀ (g : AH), YL m h g → MF g K y.1 → (y.1.2 = 0 → hI g 248 m = y.2) → Rw (d + 5) Q (m_X13_readDay, 22, [some (.ref 235), some (.int (nI w)), some (.int (nI m))], [], 262, g) := by
    intro g yg cg eg
    have hN2 := hN.l yg
    refine R_gs 30 rfl ?_
    refine R_is rfl rfl (j := m + 1) (ix_add (ix_nI _) (ix_lit 1)) (by omega) ?_
    have c2 : MF (wI g 248 (m + 1) 0) K y.1 := cg.l
    have y2 : YL m h (wI g 248 (m + 1) 0) := yg.trans (YL.w (Or.inr rfl) 0)
    have hN3 := hN.l y2
    have e2 : hI (wI g 248 (m + 1) 0) 248 m = hI g 248 m := (wI_at _ _ _ _ _).trans (if_neg (by omega))
    refine R_gs 32 rfl ?_
    refine W_b rfl (fun hc32 => ?_) (fun hc32 => ?_)
    ·
      rw [show (nI w = 0 ↔ w = 0) from nI_eq (b := 0) (by omega) (by omega)] at hc32
      refine R_gs 50 rfl ?_
      refine W_bt rfl ((by rw [hc32]; rfl)) ?_
      refine R_gs 59 rfl ?_
      rw [show dl2 K N t y = rk K N 0 y.1 from if_pos (by omega)] at h1
      refine R_k rfl rfl (m_takeTold (r := false) (σ := 0) kO c2 hN3 nO nD (by omega) (fun h3 v3 m3 c3 e3 => ?_))
      refine R_is rfl rfl (j := m + 1) (ix_add (ix_nI _) (ix_lit 1)) (by omega) ?_
      refine R_gs 141 rfl ?_
      refine W_f rfl (by first | rfl | exact ⟨rfl, by first | decide | assumption | exact Or.inl rfl | exact Or.inr rfl | exact b2i_01 _⟩) ?_
      exact h1 _ ((y2.trans m3.l).trans (YL.w (Or.inr rfl) _)) c3.l (fun e => ⟨((wI_at _ _ _ _ _).trans (if_neg (by omega))).trans ((congrFun (m3.1.I (b := 248) rfl) m).trans (e2.trans (eg (rk_z e).1))), ((wI_at _ _ _ _ _).trans (if_pos rfl)).trans (e3 e)⟩)
    ·
      rw [show (nI w = 0 ↔ w = 0) from nI_eq (b := 0) (by omega) (by omega)] at hc32
      refine R_gs 37 rfl ?_
      refine W_b rfl (fun hc37 => ?_) (fun hc37 => ?_)
      ·
        rw [show (nI w = 2 ↔ w = 2) from nI_eq (b := 2) (by omega) (by omega)] at hc37
        refine R_gs 50 rfl ?_
        refine W_bf rfl (fun e => absurd ((nI_eq (b := 0) (by omega) (by omega)).mp e) (by omega)) ?_
        refine R_gs 59 rfl ?_
        rw [show dl2 K N t y = rk K N 1 y.1 from by unfold dl2; rw [if_neg (by omega), if_pos (by omega)]] at h1
        refine R_k rfl rfl (m_takeTold (r := false) (σ := 1) kO c2 hN3 nO nD (by omega) (fun h3 v3 m3 c3 e3 => ?_))
        refine R_is rfl rfl (j := m + 1) (ix_add (ix_nI _) (ix_lit 1)) (by omega) ?_
        refine R_gs 141 rfl ?_
        refine W_f rfl (by first | rfl | exact ⟨rfl, by first | decide | assumption | exact Or.inl rfl | exact Or.inr rfl | exact b2i_01 _⟩) ?_
        exact h1 _ ((y2.trans m3.l).trans (YL.w (Or.inr rfl) _)) c3.l (fun e => ⟨((wI_at _ _ _ _ _).trans (if_neg (by omega))).trans ((congrFun (m3.1.I (b := 248) rfl) m).trans (e2.trans (eg (rk_z e).1))), ((wI_at _ _ _ _ _).trans (if_pos rfl)).trans (e3 e)⟩)
      ·
        rw [show (nI w = 2 ↔ w = 2) from nI_eq (b := 2) (by omega) (by omega)] at hc37
        refine R_gs 68 rfl ?_
        refine W_b rfl (fun hc68 => ?_) (fun hc68 => ?_)
        ·
          rw [show (nI w = 3 ↔ w = 3) from nI_eq (b := 3) (by omega) (by omega)] at hc68
          refine R_gs 87 rfl ?_
          rw [show dl2 K N t y = (sp K (bl K (decide ((lu K N 2 y.1).1.2 = 0) && decide ((lu K N 2 y.1).2 = y.2)) 3 (lu K N 2 y.1).1), (lu K N 2 y.1).2) from by unfold dl2; rw [if_neg (by omega), if_neg (by omega), if_pos (by omega)]] at h1
          dsimp only at h1
          have lz := lu_z (K := K) (N := N) (σ := 2) (s := y.1)
          have gx : y.1.1 = (lu K N 2 y.1).1.1 := (by unfold lu; dsimp only; rw [bl_1, bl_1])
          refine R_k rfl rfl (m_toldHere (r := false) (σ := 2) kO c2 hN3 nO nD (by omega) (fun h3 v3 m3 c3 e3 => ?_))
          refine R_is rfl rfl (j := m + 1) (ix_add (ix_nI _) (ix_lit 1)) (by omega) ?_
          have c4 : MF (wI h3 248 (m + 1) v3) K (lu K N 2 y.1).1 := c3.l
          have y4 : YL m h (wI h3 248 (m + 1) v3) := (y2.trans m3.l).trans (YL.w (Or.inr rfl) v3)
          have a4 : hI (wI h3 248 (m + 1) v3) 248 (m + 1) = v3 := (wI_at _ _ _ _ _).trans (if_pos rfl)
          have a5 : hI (wI h3 248 (m + 1) v3) 248 m = hI g 248 m := ((wI_at _ _ _ _ _).trans (if_neg (by omega))).trans ((congrFun (m3.1.I (b := 248) rfl) m).trans e2)
          refine R_gs 95 rfl ?_
          refine W_b rfl (fun hc95 => ?_) (fun hc95 => ?_)
          ·
            rw [c4.fz] at hc95
            have l9 := lz hc95
            have a6 := a5.trans (eg l9.1)
            have a7 := a4.trans (e3 hc95)
            have tnz : tk K (lu K N 2 y.1).1.1 ≠ 0 := (by rw [← gx]; exact (c2.val kO l9.2.1).2.2)
            obtain ⟨u1, u2⟩ := sp_1 kO c4.2.1 hc95 tnz
            rw [decide_eq_true hc95, Bool.true_and] at h1
            have bz : ¬ (bl K true 3 (lu K N 2 y.1).1).2 = 0 := (by rw [bl_y hc95]; dsimp only; omega)
            refine R_gs 105 rfl ?_
            refine R_il rfl rfl (j := m + 1) (ix_add (ix_nI _) (ix_lit 1)) (by omega) a7 ?_
            refine R_gs 111 rfl ?_
            refine R_il rfl rfl (ix_nI _) (by omega) a6 ?_
            refine W_b rfl (fun hc112 => ?_) (fun hc112 => ?_)
            ·
              rw [decide_eq_true hc112, sp_n bz] at h1
              refine R_gs 117 rfl ?_
              refine R_k rfl rfl (m_wrong kO (k := 3) (by decide) c4 (fun h5 m5 c5 => ?_))
              refine R_gs 129 rfl ?_
              refine W_bf rfl (fun e => bz (c5.fl.mp e)) ?_
              refine R_gs 141 rfl ?_
              refine W_f rfl (by first | rfl | exact ⟨rfl, by first | decide | assumption | exact Or.inl rfl | exact Or.inr rfl | exact b2i_01 _⟩) ?_
              exact h1 _ ((y4.trans m5.l).trans (MR.w7 _ _).l) (c5.st (MR.w7 _ _) c5.2.1 (by show hI h5 235 7 + 0 = _; rw [c5.2.2.1, Int32.add_zero]) c5.2.2.2.1 c5.2.2.2.2.1) (fun e => absurd e bz)
            ·
              rw [decide_eq_false hc112, bl_n (s := (lu K N 2 y.1).1) (k := 3) (Or.inl rfl), u1] at h1
              refine R_gs 129 rfl ?_
              refine W_bt rfl (c4.fl.mpr hc95) ?_
              refine R_gs 141 rfl ?_
              refine W_f rfl (by first | rfl | exact ⟨rfl, by first | decide | assumption | exact Or.inl rfl | exact Or.inr rfl | exact b2i_01 _⟩) ?_
              exact h1 _ (y4.trans (MR.w7 _ _).l) (c4.st (MR.w7 _ _) u2 (by show hI (wI h3 248 (m + 1) v3) 235 7 + 1 = _; rw [c4.2.2.1, nI_1]) (by show hI (wI h3 248 (m + 1) v3) 235 8 = _; rw [c4.2.2.2.1, hc95]) (Nat.zero_le _)) (fun _ => ⟨a6, a7⟩)
          ·
            rw [c4.fz] at hc95
            rw [decide_eq_false hc95, Bool.false_and, bl_n (s := (lu K N 2 y.1).1) (k := 3) (Or.inl rfl), sp_n hc95] at h1
            refine R_gs 129 rfl ?_
            refine W_bf rfl (fun e => hc95 (c4.fl.mp e)) ?_
            refine R_gs 141 rfl ?_
            refine W_f rfl (by first | rfl | exact ⟨rfl, by first | decide | assumption | exact Or.inl rfl | exact Or.inr rfl | exact b2i_01 _⟩) ?_
            exact h1 _ (y4.trans (MR.w7 _ _).l) (c4.st (MR.w7 _ _) c4.2.1 (by show hI (wI h3 248 (m + 1) v3) 235 7 + 0 = _; rw [c4.2.2.1, Int32.add_zero]) c4.2.2.2.1 c4.2.2.2.2.1) (fun e => absurd e hc95)
        ·
          rw [show (nI w = 3 ↔ w = 3) from nI_eq (b := 3) (by omega) (by omega)] at hc68
          refine R_gs 73 rfl ?_
          refine W_b rfl (fun hc73 => ?_) (fun hc73 => ?_)
          ·
            rw [show (nI w = 4 ↔ w = 4) from nI_eq (b := 4) (by omega) (by omega)] at hc73
            refine R_gs 87 rfl ?_
            rw [show dl2 K N t y = (sp K (bl K (decide ((lu K N 2 y.1).1.2 = 0) && decide ((lu K N 2 y.1).2 = y.2)) 3 (lu K N 2 y.1).1), (lu K N 2 y.1).2) from by unfold dl2; rw [if_neg (by omega), if_neg (by omega), if_pos (by omega)]] at h1
            dsimp only at h1
            have lz := lu_z (K := K) (N := N) (σ := 2) (s := y.1)
            have gx : y.1.1 = (lu K N 2 y.1).1.1 := (by unfold lu; dsimp only; rw [bl_1, bl_1])
            refine R_k rfl rfl (m_toldHere (r := false) (σ := 2) kO c2 hN3 nO nD (by omega) (fun h3 v3 m3 c3 e3 => ?_))
            refine R_is rfl rfl (j := m + 1) (ix_add (ix_nI _) (ix_lit 1)) (by omega) ?_
            have c4 : MF (wI h3 248 (m + 1) v3) K (lu K N 2 y.1).1 := c3.l
            have y4 : YL m h (wI h3 248 (m + 1) v3) := (y2.trans m3.l).trans (YL.w (Or.inr rfl) v3)
            have a4 : hI (wI h3 248 (m + 1) v3) 248 (m + 1) = v3 := (wI_at _ _ _ _ _).trans (if_pos rfl)
            have a5 : hI (wI h3 248 (m + 1) v3) 248 m = hI g 248 m := ((wI_at _ _ _ _ _).trans (if_neg (by omega))).trans ((congrFun (m3.1.I (b := 248) rfl) m).trans e2)
            refine R_gs 95 rfl ?_
            refine W_b rfl (fun hc95 => ?_) (fun hc95 => ?_)
            ·
              rw [c4.fz] at hc95
              have l9 := lz hc95
              have a6 := a5.trans (eg l9.1)
              have a7 := a4.trans (e3 hc95)
              have tnz : tk K (lu K N 2 y.1).1.1 ≠ 0 := (by rw [← gx]; exact (c2.val kO l9.2.1).2.2)
              obtain ⟨u1, u2⟩ := sp_1 kO c4.2.1 hc95 tnz
              rw [decide_eq_true hc95, Bool.true_and] at h1
              have bz : ¬ (bl K true 3 (lu K N 2 y.1).1).2 = 0 := (by rw [bl_y hc95]; dsimp only; omega)
              refine R_gs 105 rfl ?_
              refine R_il rfl rfl (j := m + 1) (ix_add (ix_nI _) (ix_lit 1)) (by omega) a7 ?_
              refine R_gs 111 rfl ?_
              refine R_il rfl rfl (ix_nI _) (by omega) a6 ?_
              refine W_b rfl (fun hc112 => ?_) (fun hc112 => ?_)
              ·
                rw [decide_eq_true hc112, sp_n bz] at h1
                refine R_gs 117 rfl ?_
                refine R_k rfl rfl (m_wrong kO (k := 3) (by decide) c4 (fun h5 m5 c5 => ?_))
                refine R_gs 129 rfl ?_
                refine W_bf rfl (fun e => bz (c5.fl.mp e)) ?_
                refine R_gs 141 rfl ?_
                refine W_f rfl (by first | rfl | exact ⟨rfl, by first | decide | assumption | exact Or.inl rfl | exact Or.inr rfl | exact b2i_01 _⟩) ?_
                exact h1 _ ((y4.trans m5.l).trans (MR.w7 _ _).l) (c5.st (MR.w7 _ _) c5.2.1 (by show hI h5 235 7 + 0 = _; rw [c5.2.2.1, Int32.add_zero]) c5.2.2.2.1 c5.2.2.2.2.1) (fun e => absurd e bz)
              ·
                rw [decide_eq_false hc112, bl_n (s := (lu K N 2 y.1).1) (k := 3) (Or.inl rfl), u1] at h1
                refine R_gs 129 rfl ?_
                refine W_bt rfl (c4.fl.mpr hc95) ?_
                refine R_gs 141 rfl ?_
                refine W_f rfl (by first | rfl | exact ⟨rfl, by first | decide | assumption | exact Or.inl rfl | exact Or.inr rfl | exact b2i_01 _⟩) ?_
                exact h1 _ (y4.trans (MR.w7 _ _).l) (c4.st (MR.w7 _ _) u2 (by show hI (wI h3 248 (m + 1) v3) 235 7 + 1 = _; rw [c4.2.2.1, nI_1]) (by show hI (wI h3 248 (m + 1) v3) 235 8 = _; rw [c4.2.2.2.1, hc95]) (Nat.zero_le _)) (fun _ => ⟨a6, a7⟩)
            ·
              rw [c4.fz] at hc95
              rw [decide_eq_false hc95, Bool.false_and, bl_n (s := (lu K N 2 y.1).1) (k := 3) (Or.inl rfl), sp_n hc95] at h1
              refine R_gs 129 rfl ?_
              refine W_bf rfl (fun e => hc95 (c4.fl.mp e)) ?_
              refine R_gs 141 rfl ?_
              refine W_f rfl (by first | rfl | exact ⟨rfl, by first | decide | assumption | exact Or.inl rfl | exact Or.inr rfl | exact b2i_01 _⟩) ?_
              exact h1 _ (y4.trans (MR.w7 _ _).l) (c4.st (MR.w7 _ _) c4.2.1 (by show hI (wI h3 248 (m + 1) v3) 235 7 + 0 = _; rw [c4.2.2.1, Int32.add_zero]) c4.2.2.2.1 c4.2.2.2.2.1) (fun e => absurd e hc95)
          ·
            rw [show (nI w = 4 ↔ w = 4) from nI_eq (b := 4) (by omega) (by omega)] at hc73
            refine W_f rfl (by first | rfl | exact ⟨rfl, by first | decide | assumption | exact Or.inl rfl | exact Or.inr rfl | exact b2i_01 _⟩) ?_
            rw [show dl2 K N t y = (y.1, 0) from by unfold dl2; rw [if_neg (by omega), if_neg (by omega), if_neg (by omega)]] at h1
            exact h1 _ y2 c2 (fun e => ⟨e2.trans (eg e), (wI_at _ _ _ _ _).trans (if_pos rfl)⟩)
  refine R_in rfl rfl ?_
  refine R_gs 7 rfl ?_
  refine W_b rfl (fun hc7 => ?_) (fun hc7 => ?_)
  ·
    rw [show (nI w = 5 ↔ w = 5) from nI_eq (b := 5) (by omega) (by omega)] at hc7
    have e1 : y = (s, 0) := (by rw [ey]; unfold dl1; rw [if_pos (by omega)])
    refine R_gs 21 rfl ?_
    refine R_is rfl rfl (ix_nI _) (by omega) ?_
    exact fin _ (YL.w (Or.inl rfl) 0) (by rw [e1]; exact c.l) (fun _ => by rw [e1]; exact (wI_at _ _ _ _ _).trans (if_pos rfl))
  ·
    rw [show (nI w = 5 ↔ w = 5) from nI_eq (b := 5) (by omega) (by omega)] at hc7
    have e1 : y = rk K N 2 s := (by rw [ey]; unfold dl1; rw [if_neg (by omega)])
    refine R_gs 18 rfl ?_
    refine R_k rfl rfl (m_takeTold (r := false) (σ := 2) kO c hN nO nD (by omega) (fun h3 v3 m3 c3 e3 => ?_))
    refine R_is rfl rfl (ix_nI _) (by omega) ?_
    exact fin _ (m3.l.trans (YL.w (Or.inl rfl) v3)) (by rw [e1]; exact c3.l) (fun e => by rw [e1] at e ⊢; exact ((wI_at _ _ _ _ _).trans (if_pos rfl)).trans (e3 e))
end
