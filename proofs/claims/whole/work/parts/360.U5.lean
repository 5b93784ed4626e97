section
variable {d m : Nat} {h h' g : AH} {K : TKs} {s : RS} {L : SL} {S : SS} {H : SH'} {B : SB'} {M : SM'} {D : SD'} {T : ST'} {N : SN'} {Q : Option Value → AH → Prop}
theorem rk_f {σ : Nat} (hf : ¬ s.2 = 0) : (rk K N σ s).1 = s := by
  have : (lu K N σ s).1 = s := by unfold lu; dsimp only; rw [bl_n (Or.inr (by rw [bl_n (Or.inr hf)]; exact hf)), bl_n (Or.inr hf)]
  unfold rk; dsimp only; rw [this, sp_n hf]
theorem dl1_f {t : Nat} (hf : ¬ s.2 = 0) : (dl1 K N t s).1 = s := by
  unfold dl1; split
  · rfl
  · exact rk_f hf
theorem dl2_f {t : Nat} {y : RS × Int32} (hf : ¬ y.1.2 = 0) : (dl2 K N t y).1 = y.1 := by
  unfold dl2; split
  · exact rk_f hf
  · split
    · exact rk_f hf
    · split
      · have : (lu K N 2 y.1).1 = y.1 := by unfold lu; dsimp only; rw [bl_n (Or.inr (by rw [bl_n (Or.inr hf)]; exact hf)), bl_n (Or.inr hf)]
        dsimp only
        rw [this, bl_n (Or.inr hf), sp_n hf]
      · rfl
theorem ddL_f (hf : ¬ (dl0 K s D).2 = 0) : (ddL K N s D).1 = ex K 6 (dl0 K s D) ∧ ¬ (ddL K N s D).1.2 = 0 := by
  have e : (ddL K N s D).1 = ex K 6 (dl0 K s D) := by
    unfold ddL; dsimp only; rw [dl2_f (by rw [dl1_f hf]; exact hf), dl1_f hf]
  exact ⟨e, fun q => hf (ex_z (e ▸ q)).1⟩
theorem wh_vb (hf : s.2 = 0) : (vb (tk K s.1) = true ∧ wh K 10 6 s = nI (tk K s.1 - 17)) ∨ (vb (tk K s.1) = false ∧ wh K 10 6 s = -1) := by
  unfold vb
  by_cases e2 : 17 ≤ tk K s.1 ∧ tk K s.1 ≤ 22
  · left
    refine ⟨by rw [decide_eq_true e2.1, decide_eq_true e2.2]; rfl, wh_y 6 (tk K s.1 - 17) (by omega) (by omega) ?_⟩
    unfold tz tw; rw [decide_eq_true hf, decide_eq_true (by rw [if_pos (by omega)]; omega)]; rfl
  · right
    refine ⟨by rw [Bool.and_eq_false_iff, decide_eq_false_iff_not, decide_eq_false_iff_not]; omega, wh_n (K := K) (s := s) (a := 10) 6 (fun k hk => ?_)⟩
    cases hz : tz K (tw (10 + k)) s with
    | false => rfl
    | true =>
      have := (tz_t hz).2
      unfold tw at this
      rw [if_pos (by omega)] at this
      exact absurd (by omega) e2
def DdM (h : AH) (D : SD') : Prop := ∀ k, k < D.1 → hI h 248 (100 + 3 * k) = nI (D.2 k).1 ∧ hI h 248 (101 + 3 * k) = nI (D.2 k).2.1 ∧ hI h 248 (102 + 3 * k) = nI (D.2 k).2.2
/-- what reading a day leaves as it was -/
def YW (h h' : AH) : Prop := Fr ydy h h' ∧ F78 h h' ∧ ∀ j, j < 100 → hI h' 248 j = hI h 248 j
theorem YW.refl (h : AH) : YW h h := ⟨Fr.refl _ h, fun _ _ _ => rfl, fun _ _ => rfl⟩
theorem YW.trans {h'' : AH} (a : YW h h') (b : YW h' h'') : YW h h'' := ⟨a.1.trans b.1, fun k h7 h8 => (b.2.1 k h7 h8).trans (a.2.1 k h7 h8), fun j h1 => (b.2.2 j h1).trans (a.2.2 j h1)⟩
theorem MR.w (a : MR h h') : YW h h' := ⟨a.1.mono (fun q hq => by unfold ydy; rw [hq]; rfl), a.2, fun j _ => by rw [a.1.I rfl]⟩
theorem YW.w1 {j : Nat} (hj : 100 ≤ j) (v : Int32) : YW h (wI h 248 j v) := ⟨(Fr.refl _ h).wI rfl, fun _ _ _ => rfl, fun i hi => (wI_at _ _ _ _ _).trans (if_neg (by omega))⟩
theorem YL.y (a : YL m h h') (hm : 100 ≤ m) : YW h h' := ⟨a.1, a.2.1, fun j hj => a.2.2 j (by omega) (by omega)⟩
theorem DdM.mr (p : DdM h D) (m : MR h h') : DdM h' D := by unfold DdM at *; rw [m.1.I rfl]; exact p
theorem dl0_y (kO : TokOK K) (hs : s.1 < K.1) (hf : s.2 = 0) (hv : vb (tk K s.1) = true) (hd : D.1 < 30) : dl0 K s D = (s.1 + 1, 0) ∧ s.1 + 1 < K.1 := by
  have t0 : tk K s.1 ≠ 0 := by
    unfold vb at hv
    rw [Bool.and_eq_true, decide_eq_true_eq] at hv; omega
  obtain ⟨e1, e2⟩ := sp_1 kO hs hf t0
  refine ⟨?_, e2⟩
  unfold dl0
  rw [hv, show (!true) = false from rfl, bl_n (s := s) (k := 1) (Or.inl rfl), decide_eq_false (by omega), bl_n (Or.inl rfl)]; exact e1
theorem dl1_ge {t i : Nat} (hi : i ≤ s.1) : i ≤ (dl1 K N t s).1.1 := by
  unfold dl1; split
  · exact hi
  · exact rk_le hi
theorem dl2_ge {t i : Nat} {y : RS × Int32} (hi : i ≤ y.1.1) : i ≤ (dl2 K N t y).1.1 := by
  unfold dl2; split
  · exact rk_le hi
  · split
    · exact rk_le hi
    · split
      · exact sp_le (bl_le (lu_le hi))
      · exact hi
theorem dl1_p {t : Nat} (kO : TokOK K) (hi : s.1 < K.1) : (dl1 K N t s).1.1 < K.1 := by
  unfold dl1; split
  · exact hi
  · exact rk_p kO hi
theorem dl2_p {t : Nat} {y : RS × Int32} (kO : TokOK K) (hi : y.1.1 < K.1) : (dl2 K N t y).1.1 < K.1 := by
  unfold dl2; split
  · exact rk_p kO hi
  · split
    · exact rk_p kO hi
    · split
      · exact sp_p kO (bl_p (lu_p hi))
      · exact hi
theorem ddL_gt (kO : TokOK K) (hs : s.1 < K.1) (hz : (ddL K N s D).1.2 = 0) : s.1 < (ddL K N s D).1.1 := by
  have p0 : (dl0 K s D).1 < K.1 := sp_p kO (bl_p (bl_p hs))
  have g0 : s.1 ≤ (dl0 K s D).1 := sp_le (bl_le (bl_le (Nat.le_refl _)))
  have p2 := dl2_p (N := N) (t := tk K s.1) kO (dl1_p (N := N) (t := tk K s.1) kO p0)
  have g2 := dl2_ge (K := K) (N := N) (t := tk K s.1) (dl1_ge (K := K) (N := N) (t := tk K s.1) g0)
  have := ex_gt kO (by decide : 6 ≠ 0) p2 hz
  exact Nat.lt_of_le_of_lt g2 this
theorem ddm_add {l : Nat × Nat × Nat} (p : DdM h D) (hd : D.1 < 30) (e : ∀ j, j < 100 + 3 * D.1 → hI h' 248 j = hI h 248 j) (e0 : hI h' 248 (100 + 3 * D.1) = nI l.1) (e1 : hI h' 248 (101 + 3 * D.1) = nI l.2.1) (e2 : hI h' 248 (102 + 3 * D.1) = nI l.2.2) : DdM h' (psD D l) := fun k hk => by
  have hk : k < D.1 + 1 := hk
  show _ = nI (if k = D.1 then l else D.2 k).1 ∧ _ = nI (if k = D.1 then l else D.2 k).2.1 ∧ _ = nI (if k = D.1 then l else D.2 k).2.2
  by_cases ek : k = D.1
  · subst ek; rw [if_pos rfl]; exact ⟨e0, e1, e2⟩
  · rw [if_neg ek, e _ (by omega), e _ (by omega), e _ (by omega)]; exact p k (by omega)
def ydt (q : Nat) : Bool := ydy q || ytk q
theorem ydt_M {q : Nat} (hq : ydt q = true) : xM q = true := by
  have e : q = 235 ∨ q = 248 ∨ q = 237 ∨ q = 238 ∨ q = 239 := by
    simp only [ydt, ydy, ytk, Bool.or_eq_true, Bool.and_eq_true, Nat.beq_eq, Nat.ble_eq] at hq; omega
  rcases e with rfl | rfl | rfl | rfl | rfl <;> rfl
theorem RM.day {D' : SD'} (c : RM h L S H B M D T N) (f : Fr ydt h h') (g2 : hI h' 235 2 = 0) (g25 : hI h' 235 25 = hI h 235 25) (g18 : hI h' 235 18 = hI h 235 18) (hD : DayM h' D') : RM h' L S H B M D' (0, T.2) N := by
  obtain ⟨c1, c2, c3, c4, c5, c6, c7, c8⟩ := c
  exact ⟨c1.fr f rfl rfl rfl, c2.fr f rfl, c3.fr f rfl, c4.fr f g25 rfl, c5.fr f rfl rfl, hD, ⟨g2, fun i hi => absurd hi (Nat.not_lt_zero i)⟩, c8.fr f g18 rfl rfl⟩
theorem dayM_lo (hd : D.1 ≤ 30) (e : ∀ j, j < 100 → hI h' 248 j = hI h 248 j) (c : DayM h D) : DayM h' D := by
  refine ⟨(e 0 (by omega)).trans c.1, fun k hk => ?_⟩
  rw [e _ (by omega), e _ (by omega), e _ (by omega)]; exact c.2 k hk
theorem day_D5 {E : SD'} (kO : TokOK K) (nO : NmO N) (p : DdM h E) (hd : E.1 < 30) (z : (dl2 K N (tk K s.1) (dl1 K N (tk K s.1) (dl0 K s E))).1.2 = 0) (hz : (ddL K N s E).1.2 = 0) (e : ∀ j, j < 100 + 3 * E.1 → hI h' 248 j = hI h 248 j) (e0 : hI h' 248 (100 + 3 * E.1) = nI (tk K s.1 - 17)) (e1 : hI h' 248 (101 + 3 * E.1) = (dl1 K N (tk K s.1) (dl0 K s E)).2) (e2 : hI h' 248 (101 + 3 * E.1 + 1) = (dl2 K N (tk K s.1) (dl1 K N (tk K s.1) (dl0 K s E))).2) : DdM h' (ddL K N s E).2 := by
  rw [show (ddL K N s E).2 = psD E (tk K s.1 - 17, (dl1 K N (tk K s.1) (dl0 K s E)).2.toNatClampNeg, (dl2 K N (tk K s.1) (dl1 K N (tk K s.1) (dl0 K s E))).2.toNatClampNeg) from if_pos hz]
  refine ddm_add p hd e e0 ?_ ?_
  · dsimp only; rw [e1]; exact (dl1_n nO (dl2_z z)).1
  · dsimp only; rw [show 102 + 3 * E.1 = 101 + 3 * E.1 + 1 by omega, e2]; exact (dl2_n nO z).1
theorem m_day (wd : WrdM h) (nD : NmD N) (W : WOK L S H B M D T N) (c : RM h L S H B M D T N) (h1 : ∀ h', Fr xM h h' → RM h' L S H B M (if dyF T N = 0 then dyD T N else D) (0, T.2) N → Q (some (.int (nI (dyF T N)))) h') : Rc (d + 7) m_X13_day [.ref 235] h Q := by
  have hO := W.1
  have tO := W.2.2.2.2.2.2.1
  have nN := W.2.2.2.2.2.2.2
  have nO := nN.nm hO
  have dO := W.2.2.2.2.2.1
  have kO := tok_ok tO
  have k1 := kO.1
  have rD : (dayA (allT T) N).2.1 ≤ 30 := (dayA_D nN nO).1
  unfold dyF dyD at h1
  have c0 := c.thr
  refine R_in rfl rfl ?_
  refine R_gs 6 rfl ?_
  refine R_k rfl rfl (m_cutAll c0.2.2.2.2.2.2.1 tO (fun h2 f2 e2 z2 z7 z8 t2 w2 => ?_))
  have c2 : MF h2 (allT T) (0, 0) := ⟨t2, kO.2.2.1, z7, z8, Nat.zero_le _, fun w hw => by rw [f2.J (b := 240) rfl]; exact wd w hw⟩
  have F2 : Fr ydt h h2 := ((Fr.refl _ h).wI rfl).trans (f2.mono (fun q hq => by unfold ydt; rw [hq, Bool.or_true]))
  have q25 : hI h2 235 25 = hI h 235 25 := e2 25 (by decide) (by decide) (by decide) (by decide)
  have q18 : hI h2 235 18 = hI h 235 18 := e2 18 (by decide) (by decide) (by decide) (by decide)
  have n2 : NmX h2 false N := ⟨q18.trans c.2.2.2.2.2.2.2.1, fun k hk => (by have := c.2.2.2.2.2.2.2.2 k hk; simp only [Bool.false_eq_true, if_false]; rw [f2.J (b := 244) rfl, f2.I (b := 246) rfl]; exact this)⟩
  refine R_gs 11 rfl ?_
  refine w_meas (W := fun (y : AH × Nat × RS × SD') => ∀ (x1 : Int32) (x2 : Option Value), (y.2.2.1.2 = 0 → x1 = nI y.2.2.2.1) → Rw (d + 6) Q (m_X13_day, 11, [some (.ref 235), some (.int x1), x2], [], 262, y.1)) (fun y => YW h2 y.1 ∧ MF y.1 (allT T) y.2.2.1 ∧ (y.2.2.1.2 = 0 → DdM y.1 y.2.2.2) ∧ y.2.2.2.1 ≤ 30 ∧ (y.2.2.1.2 = 0 → (allT T).1 ≤ y.2.1 + y.2.2.1.1) ∧ dayA (allT T) N = dds (allT T) N y.2.1 y.2.2.1 y.2.2.2) (fun y => if y.2.2.1.2 = 0 then (allT T).1 - y.2.2.1.1 + 1 else 0) (s0 := (h2, 1001, (0, 0), (0, fun _ => (0, 0, 0)))) ⟨YW.refl _, c2, fun _ k hk => absurd hk (Nat.not_lt_zero k), Nat.zero_le _, fun _ => by dsimp only; omega, rfl⟩ (fun y hi w => ?_) 0 none (fun _ => rfl)
  ·
    intro x1 x2 hx1
    obtain ⟨g, m, s, E⟩ := y
    obtain ⟨i1, i2, i3, i4, i7, i8⟩ := hi
    dsimp only at i1 i2 i3 i4 i7 i8 hx1 ⊢
    have ps := i2.2.1
    have y1 := (i2.1 s.1 i2.2.1).1
    have t1 : tk (allT T) s.1 < 38 := (i2.tg kO).1
    have sr : nI (srt (tk (allT T) s.1)) = 0 ↔ tk (allT T) s.1 = 0 := sr0 _ t1
    refine R_gs 15 rfl ?_
    refine W_b rfl (fun hc15 => ?_) (fun hc15 => ?_)
    ·
      rw [i2.fz] at hc15
      refine R_gs 26 rfl ?_
      refine R_il rfl rfl (j := s.1) i2.2.2.1 (by omega) y1 ?_
      refine W_b rfl (fun hc27 => ?_) (fun hc27 => ?_)
      ·
        refine R_gs 114 rfl ?_
        have hx : ¬ (s.2 = 0 ∧ tk (allT T) s.1 ≠ 0) := fun e => e.2 (sr.mp hc27)
        rw [dds_e (Or.inr hx)] at i8
        rw [i8] at h1 rD
        refine W_b rfl (fun hc114 => ?_) (fun hc114 => ?_)
        ·
          rw [i2.fl] at hc114
          refine R_gs 128 rfl ?_
          rw [hx1 hc114]
          refine R_is rfl rfl (j := 0) rfl (by omega) ?_
          refine R_gs 131 rfl ?_
          refine w_inv (W := fun j (u : AH) => Rw (d + 6) Q (m_X13_day, 131, [some (.ref 235), some (.int (nI E.1)), some (.int (nI j))], [], 262, u)) (3 * E.1) (fun j u => Fr (fun q => Nat.beq q 248) g u ∧ hI u 248 0 = nI E.1 ∧ (∀ i, i < j → hI u 248 (1 + i) = hI g 248 (100 + i)) ∧ ∀ i, 100 ≤ i → hI u 248 i = hI g 248 i) (s0 := wI g 248 0 (nI E.1)) ⟨(Fr.refl _ g).wI rfl, (wI_at _ _ _ _ _).trans (if_pos rfl), fun i hi => absurd hi (Nat.not_lt_zero i), fun i hi => (wI_at _ _ _ _ _).trans (if_neg (by omega))⟩ (fun j u hj hu w => ?_) (fun u hu => ?_)
          ·
            obtain ⟨a1, a2, a3, a4⟩ := hu
            refine R_gs 135 rfl ?_
            rw [show (3 : Int32) * nI E.1 = nI (3 * E.1) from ix_mul (ix_lit 3) (ix_nI _)]
            refine W_bf rfl (fun e => absurd ((nI_leI (by omega) (by omega)).mp e) (by omega)) ?_
            refine R_gs 153 rfl ?_
            refine R_il rfl rfl (j := 100 + j) (ix_add (ix_lit 100) (ix_nI j)) (by omega) (a4 (100 + j) (by omega)) ?_
            refine R_is rfl rfl (j := 1 + j) (ix_add (ix_lit 1) (ix_nI j)) (by omega) ?_
            refine R_gs 131 rfl ?_
            rw [nI_1]; refine w _ ⟨a1.wI rfl, (wI_at _ _ _ _ _).trans ((if_neg (by omega)).trans a2), fun i hi => ?_, fun i hi => ?_⟩
            · rw [wI_at]; by_cases e : i = j; rw [if_pos (by omega), e]; rw [if_neg (by omega)]; exact a3 i (by omega)
            · rw [wI_at, if_neg (by omega)]; exact a4 i hi
          ·
            obtain ⟨a1, a2, a3, a4⟩ := hu
            refine R_gs 135 rfl ?_
            rw [show (3 : Int32) * nI E.1 = nI (3 * E.1) from ix_mul (ix_lit 3) (ix_nI _)]
            refine W_bt rfl (Int32.le_refl _) ?_
            refine R_gs 162 rfl ?_
            refine W_f rfl (by first | rfl | exact ⟨rfl, by first | decide | assumption | exact Or.inl rfl | exact Or.inr rfl | exact b2i_01 _⟩) ?_
            rw [if_pos hc114] at h1
            dsimp only at h1
            rw [hc114] at h1
            have F : Fr ydt h u := (F2.trans (i1.1.mono (fun q hq => by unfold ydt; rw [hq]; rfl))).trans (a1.mono (fun q hq => by have := Nat.eq_of_beq_eq_true hq; subst this; rfl))
            have gg : ∀ k, hI u 235 k = hI g 235 k := fun k => by rw [a1.I (b := 235) rfl]
            refine h1 _ (F.mono (fun q hq => ydt_M hq)) (c.day F (((gg 2).trans (i1.2.1 2 (by decide) (by decide))).trans z2) (((gg 25).trans (i1.2.1 25 (by decide) (by decide))).trans q25) (((gg 18).trans (i1.2.1 18 (by decide) (by decide))).trans q18) ⟨a2, fun k hk => ?_⟩)
            have p3 := i3 hc114 k hk
            rw [show 1 + 3 * k = 1 + (3 * k) from rfl, a3 (3 * k) (by omega), show 2 + 3 * k = 1 + (3 * k + 1) by omega, a3 (3 * k + 1) (by omega), show 3 + 3 * k = 1 + (3 * k + 2) by omega, a3 (3 * k + 2) (by omega), show 100 + (3 * k + 1) = 101 + 3 * k by omega, show 100 + (3 * k + 2) = 102 + 3 * k by omega]; exact p3
        ·
          rw [i2.fl] at hc114
          refine R_gs 121 rfl ?_
          refine W_f rfl (by first | rfl | exact ⟨rfl, by first | decide | assumption | exact Or.inl rfl | exact Or.inr rfl | exact b2i_01 _⟩) ?_
          rw [i2.2.2.2.1]; rw [if_neg hc114] at h1
          have F := F2.trans (i1.1.mono (fun q hq => by unfold ydt; rw [hq]; rfl))
          exact h1 _ (F.mono (fun q hq => ydt_M hq)) (c.day F ((i1.2.1 2 (by decide) (by decide)).trans z2) ((i1.2.1 25 (by decide) (by decide)).trans q25) ((i1.2.1 18 (by decide) (by decide)).trans q18) (dayM_lo dO.1 (fun j hj => (i1.2.2 j hj).trans (congrFun (f2.I (b := 248) rfl) j)) c.2.2.2.2.2.1))
      ·
        refine R_gs 35 rfl ?_
        have hx2 := hx1 hc15
        have p3 := i3 hc15
        have vv := wh_vb (K := allT T) hc15
        rw [hx2]
        refine R_k rfl rfl (m_wordHere kO (a := 10) (m := 6) (by omega) i2 ?_)
        refine R_gs 40 rfl ?_
        refine W_b rfl (fun hc40 => ?_) (fun hc40 => ?_)
        ·
          rw [show ((0 : Int32) ≤ wh (allT T) 10 6 s ↔ vb (tk (allT T) s.1) = true) from by rcases vv with ⟨v1, v2⟩ | ⟨v1, v2⟩; rw [v1, v2]; exact ⟨fun _ => rfl, fun _ => nI_pos' (by omega)⟩; rw [v1, v2]; exact ⟨fun e => absurd e (by decide), fun e => absurd e (by decide)⟩] at hc40
          have wv : wh (allT T) 10 6 s = nI (tk (allT T) s.1 - 17) := (vv.resolve_right (fun q => by rw [hc40] at q; exact absurd q.1 (by decide))).2
          have hv := hc40
          unfold vb at hv
          rw [Bool.and_eq_true, decide_eq_true_eq, decide_eq_true_eq] at hv
          refine R_gs 54 rfl ?_
          refine W_b rfl (fun hc54 => ?_) (fun hc54 => ?_)
          ·
            rw [show (nI E.1 = 30 ↔ E.1 = 30) from nI_eq (b := 30) (by omega) (by omega)] at hc54
            have d0 : dl0 (allT T) s E = bl (allT T) true 5 s := (by unfold dl0; rw [hc40, show (!true) = false from rfl, bl_n (s := s) (k := 1) (Or.inl rfl), decide_eq_true (by omega), sp_n (by rw [bl_y hc15]; dsimp only; omega)])
            have d1 : ¬ (dl0 (allT T) s E).2 = 0 := (by rw [d0, bl_y hc15]; dsimp only; omega)
            refine R_gs 59 rfl ?_
            refine R_k rfl rfl (m_wrong kO (k := 5) (by decide) i2 (fun h4 m4 c4 => ?_))
            refine R_gs 104 rfl ?_
            refine R_k rfl rfl (m_takeSign (t := 6) kO (by decide) (by decide) c4 (fun h5 m5 c5 => ?_))
            have fl := ddL_f (N := N) d1
            have C5 : MF h5 (allT T) (ddL (allT T) N s E).1 := (by rw [fl.1, d0]; exact c5)
            have Y5 : YW g h5 := m4.w.trans m5.w
            have D5 : (ddL (allT T) N s E).1.2 = 0 → DdM h5 (ddL (allT T) N s E).2 := fun e => absurd e fl.2
            have X5 : ∀ x : Int32, (ddL (allT T) N s E).1.2 = 0 → x = nI (ddL (allT T) N s E).2.1 := fun _ e => absurd e fl.2
            refine R_gs 11 rfl ?_
            have mm := i7 hc15
            refine w (h5, m - 1, (ddL (allT T) N s E).1, (ddL (allT T) N s E).2) ⟨i1.trans Y5, C5, D5, ?_, fun e => ?_, by dsimp only; rw [i8, dds_s (by omega) ⟨hc15, fun e => hc27 (sr.mpr e)⟩]⟩ ?_ _ _ (by first | exact X5 | exact X5 _)
            · dsimp only; by_cases hz : (ddL (allT T) N s E).1.2 = 0; rw [show (ddL (allT T) N s E).2 = psD E _ from if_pos hz]; have z := dl0_z (dl1_z (dl2_z (ex_z hz).1)); show E.1 + 1 ≤ 30; omega; rw [show (ddL (allT T) N s E).2 = E from if_neg hz]; exact i4
            · have := ddL_gt kO ps e; dsimp only at e ⊢; omega
            · dsimp only; rw [if_pos hc15]; by_cases e : (ddL (allT T) N s E).1.2 = 0; rw [if_pos e]; have := ddL_gt kO ps e; omega; rw [if_neg e]; omega
          ·
            rw [show (nI E.1 = 30 ↔ E.1 = 30) from nI_eq (b := 30) (by omega) (by omega)] at hc54
            obtain ⟨d0, d1⟩ := dl0_y (D := E) kO ps hc15 hc40 (by omega)
            refine R_gs 86 rfl ?_
            rw [wv]
            refine R_is rfl rfl (j := 100 + 3 * E.1) (ix_add (ix_lit 100) (ix_mul (ix_lit 3) (ix_nI _))) (by omega) ?_
            refine R_gs 95 rfl ?_
            rw [show (101 : Int32) + 3 * nI E.1 = nI (101 + 3 * E.1) from ix_add (ix_lit 101) (ix_mul (ix_lit 3) (ix_nI _))]
            have c3 : MF (wI (wI g 235 7 (hI g 235 7 + 1)) 248 (100 + 3 * E.1) (nI (tk (allT T) s.1 - 17))) (allT T) (dl0 (allT T) s E) := (by rw [d0]; exact (i2.st (MR.w7 _ _) (s' := (s.1 + 1, 0)) d1 (by show hI g 235 7 + 1 = _; rw [i2.2.2.1, nI_1]) (by show hI g 235 8 = _; rw [i2.2.2.2.1, hc15]) (Nat.zero_le _)).l)
            have n3 : NmX (wI (wI g 235 7 (hI g 235 7 + 1)) 248 (100 + 3 * E.1) (nI (tk (allT T) s.1 - 17))) false N := n2.fr (X := ydy) ((i1.1.wI rfl).wI rfl) (i1.2.1 19 (by decide) (by decide)) (i1.2.1 18 (by decide) (by decide)) rfl rfl rfl rfl
            refine R_k rfl rfl (m_readDay (m := 101 + 3 * E.1) (t := tk (allT T) s.1) (w := tk (allT T) s.1 - 17) kO (by omega) (by omega) (by omega) c3 n3 nO nD (fun h4 y4 c4 e4 => ?_))
            refine R_gs 104 rfl ?_
            refine R_k rfl rfl (m_takeSign (t := 6) kO (by decide) (by decide) c4 (fun h5 m5 c5 => ?_))
            have C5 : MF h5 (allT T) (ddL (allT T) N s E).1 := c5
            have Y5 : YW g h5 := (((MR.w7 g (hI g 235 7 + 1)).w.trans (YW.w1 (by omega) _)).trans (y4.y (by omega))).trans m5.w
            have D5 : (ddL (allT T) N s E).1.2 = 0 → DdM h5 (ddL (allT T) N s E).2 := fun e => day_D5 kO nO p3 (by omega) (ex_z e).1 e (fun j hj => ((congrFun (m5.1.I (b := 248) rfl) j).trans (y4.2.2 j (by omega) (by omega))).trans ((wI_at _ _ _ _ _).trans (if_neg (by omega)))) (((congrFun (m5.1.I (b := 248) rfl) _).trans (y4.2.2 _ (by omega) (by omega))).trans ((wI_at _ _ _ _ _).trans (if_pos rfl))) ((congrFun (m5.1.I (b := 248) rfl) _).trans (e4 (ex_z e).1).1) ((congrFun (m5.1.I (b := 248) rfl) _).trans (e4 (ex_z e).1).2)
            have X5 : (ddL (allT T) N s E).1.2 = 0 → nI E.1 + 1 = nI (ddL (allT T) N s E).2.1 := fun e => by rw [show (ddL (allT T) N s E).2 = psD E _ from if_pos e, nI_1]; rfl
            refine R_gs 11 rfl ?_
            have mm := i7 hc15
            refine w (h5, m - 1, (ddL (allT T) N s E).1, (ddL (allT T) N s E).2) ⟨i1.trans Y5, C5, D5, ?_, fun e => ?_, by dsimp only; rw [i8, dds_s (by omega) ⟨hc15, fun e => hc27 (sr.mpr e)⟩]⟩ ?_ _ _ (by first | exact X5 | exact X5 _)
            · dsimp only; by_cases hz : (ddL (allT T) N s E).1.2 = 0; rw [show (ddL (allT T) N s E).2 = psD E _ from if_pos hz]; have z := dl0_z (dl1_z (dl2_z (ex_z hz).1)); show E.1 + 1 ≤ 30; omega; rw [show (ddL (allT T) N s E).2 = E from if_neg hz]; exact i4
            · have := ddL_gt kO ps e; dsimp only at e ⊢; omega
            · dsimp only; rw [if_pos hc15]; by_cases e : (ddL (allT T) N s E).1.2 = 0; rw [if_pos e]; have := ddL_gt kO ps e; omega; rw [if_neg e]; omega
        ·
          rw [show ((0 : Int32) ≤ wh (allT T) 10 6 s ↔ vb (tk (allT T) s.1) = true) from by rcases vv with ⟨v1, v2⟩ | ⟨v1, v2⟩; rw [v1, v2]; exact ⟨fun _ => rfl, fun _ => nI_pos' (by omega)⟩; rw [v1, v2]; exact ⟨fun e => absurd e (by decide), fun e => absurd e (by decide)⟩] at hc40
          rw [Bool.not_eq_true] at hc40
          have d0 : dl0 (allT T) s E = bl (allT T) true 1 s := (by unfold dl0; rw [hc40, show (!false) = true from rfl, bl_n (s := bl (allT T) true 1 s) (Or.inr (by rw [bl_y hc15]; dsimp only; omega)), sp_n (by rw [bl_y hc15]; dsimp only; omega)])
          have d1 : ¬ (dl0 (allT T) s E).2 = 0 := (by rw [d0, bl_y hc15]; dsimp only; omega)
          refine R_gs 45 rfl ?_
          refine R_k rfl rfl (m_wrong kO (k := 1) (by decide) i2 (fun h4 m4 c4 => ?_))
          refine R_gs 104 rfl ?_
          refine R_k rfl rfl (m_takeSign (t := 6) kO (by decide) (by decide) c4 (fun h5 m5 c5 => ?_))
          have fl := ddL_f (N := N) d1
          have C5 : MF h5 (allT T) (ddL (allT T) N s E).1 := (by rw [fl.1, d0]; exact c5)
          have Y5 : YW g h5 := m4.w.trans m5.w
          have D5 : (ddL (allT T) N s E).1.2 = 0 → DdM h5 (ddL (allT T) N s E).2 := fun e => absurd e fl.2
          have X5 : ∀ x : Int32, (ddL (allT T) N s E).1.2 = 0 → x = nI (ddL (allT T) N s E).2.1 := fun _ e => absurd e fl.2
          refine R_gs 11 rfl ?_
          have mm := i7 hc15
          refine w (h5, m - 1, (ddL (allT T) N s E).1, (ddL (allT T) N s E).2) ⟨i1.trans Y5, C5, D5, ?_, fun e => ?_, by dsimp only; rw [i8, dds_s (by omega) ⟨hc15, fun e => hc27 (sr.mpr e)⟩]⟩ ?_ _ _ (by first | exact X5 | exact X5 _)
          · dsimp only; by_cases hz : (ddL (allT T) N s E).1.2 = 0; rw [show (ddL (allT T) N s E).2 = psD E _ from if_pos hz]; have z := dl0_z (dl1_z (dl2_z (ex_z hz).1)); show E.1 + 1 ≤ 30; omega; rw [show (ddL (allT T) N s E).2 = E from if_neg hz]; exact i4
          · have := ddL_gt kO ps e; dsimp only at e ⊢; omega
          · dsimp only; rw [if_pos hc15]; by_cases e : (ddL (allT T) N s E).1.2 = 0; rw [if_pos e]; have := ddL_gt kO ps e; omega; rw [if_neg e]; omega
    ·
      rw [i2.fz] at hc15
      refine R_gs 114 rfl ?_
      have hx : ¬ (s.2 = 0 ∧ tk (allT T) s.1 ≠ 0) := fun e => hc15 e.1
      rw [dds_e (Or.inr hx)] at i8
      rw [i8] at h1 rD
      refine W_b rfl (fun hc114 => ?_) (fun hc114 => ?_)
      ·
        rw [i2.fl] at hc114
        refine R_gs 128 rfl ?_
        rw [hx1 hc114]
        refine R_is rfl rfl (j := 0) rfl (by omega) ?_
        refine R_gs 131 rfl ?_
        refine w_inv (W := fun j (u : AH) => Rw (d + 6) Q (m_X13_day, 131, [some (.ref 235), some (.int (nI E.1)), some (.int (nI j))], [], 262, u)) (3 * E.1) (fun j u => Fr (fun q => Nat.beq q 248) g u ∧ hI u 248 0 = nI E.1 ∧ (∀ i, i < j → hI u 248 (1 + i) = hI g 248 (100 + i)) ∧ ∀ i, 100 ≤ i → hI u 248 i = hI g 248 i) (s0 := wI g 248 0 (nI E.1)) ⟨(Fr.refl _ g).wI rfl, (wI_at _ _ _ _ _).trans (if_pos rfl), fun i hi => absurd hi (Nat.not_lt_zero i), fun i hi => (wI_at _ _ _ _ _).trans (if_neg (by omega))⟩ (fun j u hj hu w => ?_) (fun u hu => ?_)
        ·
          obtain ⟨a1, a2, a3, a4⟩ := hu
          refine R_gs 135 rfl ?_
          rw [show (3 : Int32) * nI E.1 = nI (3 * E.1) from ix_mul (ix_lit 3) (ix_nI _)]
          refine W_bf rfl (fun e => absurd ((nI_leI (by omega) (by omega)).mp e) (by omega)) ?_
          refine R_gs 153 rfl ?_
          refine R_il rfl rfl (j := 100 + j) (ix_add (ix_lit 100) (ix_nI j)) (by omega) (a4 (100 + j) (by omega)) ?_
          refine R_is rfl rfl (j := 1 + j) (ix_add (ix_lit 1) (ix_nI j)) (by omega) ?_
          refine R_gs 131 rfl ?_
          rw [nI_1]; refine w _ ⟨a1.wI rfl, (wI_at _ _ _ _ _).trans ((if_neg (by omega)).trans a2), fun i hi => ?_, fun i hi => ?_⟩
          · rw [wI_at]; by_cases e : i = j; rw [if_pos (by omega), e]; rw [if_neg (by omega)]; exact a3 i (by omega)
          · rw [wI_at, if_neg (by omega)]; exact a4 i hi
        ·
          obtain ⟨a1, a2, a3, a4⟩ := hu
          refine R_gs 135 rfl ?_
          rw [show (3 : Int32) * nI E.1 = nI (3 * E.1) from ix_mul (ix_lit 3) (ix_nI _)]
          refine W_bt rfl (Int32.le_refl _) ?_
          refine R_gs 162 rfl ?_
          refine W_f rfl (by first | rfl | exact ⟨rfl, by first | decide | assumption | exact Or.inl rfl | exact Or.inr rfl | exact b2i_01 _⟩) ?_
          rw [if_pos hc114] at h1
          dsimp only at h1
          rw [hc114] at h1
          have F : Fr ydt h u := (F2.trans (i1.1.mono (fun q hq => by unfold ydt; rw [hq]; rfl))).trans (a1.mono (fun q hq => by have := Nat.eq_of_beq_eq_true hq; subst this; rfl))
          have gg : ∀ k, hI u 235 k = hI g 235 k := fun k => by rw [a1.I (b := 235) rfl]
          refine h1 _ (F.mono (fun q hq => ydt_M hq)) (c.day F (((gg 2).trans (i1.2.1 2 (by decide) (by decide))).trans z2) (((gg 25).trans (i1.2.1 25 (by decide) (by decide))).trans q25) (((gg 18).trans (i1.2.1 18 (by decide) (by decide))).trans q18) ⟨a2, fun k hk => ?_⟩)
          have p3 := i3 hc114 k hk
          rw [show 1 + 3 * k = 1 + (3 * k) from rfl, a3 (3 * k) (by omega), show 2 + 3 * k = 1 + (3 * k + 1) by omega, a3 (3 * k + 1) (by omega), show 3 + 3 * k = 1 + (3 * k + 2) by omega, a3 (3 * k + 2) (by omega), show 100 + (3 * k + 1) = 101 + 3 * k by omega, show 100 + (3 * k + 2) = 102 + 3 * k by omega]; exact p3
      ·
        rw [i2.fl] at hc114
        refine R_gs 121 rfl ?_
        refine W_f rfl (by first | rfl | exact ⟨rfl, by first | decide | assumption | exact Or.inl rfl | exact Or.inr rfl | exact b2i_01 _⟩) ?_
        rw [i2.2.2.2.1]; rw [if_neg hc114] at h1
        have F := F2.trans (i1.1.mono (fun q hq => by unfold ydt; rw [hq]; rfl))
        exact h1 _ (F.mono (fun q hq => ydt_M hq)) (c.day F ((i1.2.1 2 (by decide) (by decide)).trans z2) ((i1.2.1 25 (by decide) (by decide)).trans q25) ((i1.2.1 18 (by decide) (by decide)).trans q18) (dayM_lo dO.1 (fun j hj => (i1.2.2 j hj).trans (congrFun (f2.I (b := 248) rfl) j)) c.2.2.2.2.2.1))
end
