section
variable {d n : Nat} {h h' g : AH} {L : SL} {S : SS} {H : SH'} {B : SB'} {M : SM'} {D : SD'} {T : ST'} {N : SN'} {K : TKs} {P : PD} {Q : Option Value → AH → Prop}
def RM0 (h : AH) (L : SL) (T : ST') (N : SN') (H : SH') (B : SB') (D : SD') : Prop := RM h L (begS L) (0, H.2) (0, B.2) (fun _ => none) (0, D.2) (0, T.2) N
theorem LandM.yv (hO : LandOK L) (c : LandM h L) (v : YV h h') : LandM h' L := by
  obtain ⟨o1, o2, o3, o4, -⟩ := hO
  obtain ⟨c1, c2, c3, c4, c5, c6, c7⟩ := c
  have e := v.2.1
  have law : ∀ j df l, j < 100 → LawM h j df l → LawM h' j df l := fun j df l hj q => by
    rcases q with ⟨q1, q2⟩ | ⟨k, q1, q2, q3, q4⟩
    · exact Or.inl ⟨(e j hj).trans q1, q2⟩
    · refine Or.inr ⟨k, (e j hj).trans q1, q2, fun i hi => ?_, ?_⟩
      · rw [(v.2.2.1 _ (by omega)).1, (v.2.2.1 _ (by omega)).2]; exact q3 i hi
      · rw [(v.2.2.1 _ (by omega)).1]; exact q4
  refine ⟨(e _ (by omega)).trans c1, (e _ (by omega)).trans c2, (e _ (by omega)).trans c3, (e _ (by omega)).trans c4, fun p hp => ?_, law _ _ _ (by omega) c6, law _ _ _ (by omega) c7⟩
  obtain ⟨a1, a2, a3, a4, a5⟩ := c5 p hp
  refine ⟨(e _ (by omega)).trans a1, (e _ (by omega)).trans a2, (e _ (by omega)).trans a3, fun w hw => (e _ (by omega)).trans (a4 w hw), fun q hq => ?_⟩
  rw [e _ (by omega)]; exact a5 q hq
/-- a province that can't be read leaves the world but for the tape -/
theorem RM.yv (hO : LandOK L) (c : RM h L S H B M D T N) (f : Fr (fun q => ypv q || ytk q) h h') (e1 : ∀ j, j < 100 → hI h' 241 j = hI h 241 j) (e2 : ∀ j, j < 1100 → hI h' 242 j = hI h 242 j ∧ hI h' 243 j = hI h 243 j) (g2 : hI h' 235 2 = 0) (g25 : hI h' 235 25 = hI h 235 25) (g18 : hI h' 235 18 = hI h 235 18) : RM h' L S H B M D (0, T.2) N := by
  obtain ⟨c1, c2, c3, c4, c5, c6, c7, c8⟩ := c
  obtain ⟨o1, o2, o3, o4, -⟩ := id hO
  have law : ∀ j df l, j < 100 → LawM h j df l → LawM h' j df l := fun j df l hj q => by
    rcases q with ⟨q1, q2⟩ | ⟨k, q1, q2, q3, q4⟩
    · exact Or.inl ⟨(e1 j hj).trans q1, q2⟩
    · refine Or.inr ⟨k, (e1 j hj).trans q1, q2, fun i hi => ?_, ?_⟩
      · rw [(e2 _ (by omega)).1, (e2 _ (by omega)).2]; exact q3 i hi
      · rw [(e2 _ (by omega)).1]; exact q4
  refine ⟨?_, c2.fr f rfl, c3.fr f rfl, c4.fr f g25 rfl, c5.fr f rfl rfl, c6.fr f rfl, ⟨g2, fun i hi => absurd hi (Nat.not_lt_zero i)⟩, c8.fr f g18 rfl rfl⟩
  obtain ⟨c1, c2, c3, c4, c5, c6, c7⟩ := c1
  refine ⟨(e1 _ (by omega)).trans c1, (e1 _ (by omega)).trans c2, (e1 _ (by omega)).trans c3, (e1 _ (by omega)).trans c4, fun p hp => ?_, law _ _ _ (by omega) c6, law _ _ _ (by omega) c7⟩
  obtain ⟨a1, a2, a3, a4, a5⟩ := c5 p hp
  refine ⟨(e1 _ (by omega)).trans a1, (e1 _ (by omega)).trans a2, (e1 _ (by omega)).trans a3, fun w hw => (e1 _ (by omega)).trans (a4 w hw), fun q hq => ?_⟩
  rw [e1 _ (by omega)]; exact a5 q hq
/-- the draft, copied, is the land -/
theorem pdm_land (p : PdM h P n) (o : PdO P) (B : PdB P) (hM : dM P = dP P) (hn : n ≤ 1001) (e1 : ∀ j, j < 100 → hI h' 241 j = hI h 241 (100 + j)) (e2 : ∀ j, j < n → hI h' 242 j = hI h 242 (1100 + j) ∧ hI h' 243 j = hI h 243 (1100 + j)) : LandM h' (pL P) := by
  obtain ⟨c1, c2, c3, c4, c5, c6, c7, c8, c9, c10, c11⟩ := p
  obtain ⟨o1, o2, o3, -⟩ := o
  have law : ∀ j df l, j < 100 → LwM h (100 + j) n df l → LawM h' j df l.1 := fun j df l hj q => by
    rcases q with ⟨q1, q2, q3⟩ | ⟨q1, k, q2, q3, q4, q5⟩
    · exact Or.inl ⟨(e1 j hj).trans q2, q3⟩
    · refine Or.inr ⟨k, (e1 j hj).trans q2, by omega, fun i hi => ?_, ?_⟩
      · rw [(e2 _ (by omega)).1, (e2 _ (by omega)).2]; exact q4 i hi
      · rw [(e2 _ (by omega)).1]; exact q5
  refine ⟨(e1 0 (by omega)).trans c1, (e1 1 (by omega)).trans c2, (e1 2 (by omega)).trans c3, (e1 5 (by omega)).trans c4, fun p hp => ?_, law 3 _ _ (by omega) c10, law 4 _ _ (by omega) c11⟩
  have hp : p < dP P := hp
  obtain ⟨a1, a2, a3⟩ := c5 p (by omega)
  obtain ⟨b1, b2⟩ := c6 p (by omega)
  refine ⟨(e1 _ (by omega)).trans ?_, (e1 _ (by omega)).trans ?_, (e1 _ (by omega)).trans ?_, fun w hw => (e1 _ ?_).trans ?_, fun q hq => ?_⟩
  · rw [show 100 + (8 + 3 * p) = 108 + 3 * p by omega]; exact a1
  · rw [show 100 + (8 + 3 * p + 1) = 108 + 3 * p + 1 by omega]; exact a2
  · rw [show 100 + (8 + 3 * p + 2) = 108 + 3 * p + 2 by omega]; exact a3
  · have hw : w < dS P := hw
    omega
  · have hw : w < dS P := hw
    rw [show 100 + (26 + 5 * p + w) = 126 + 5 * p + w by omega]; exact b1 w (by omega)
  · have hq : q < dP P := hq
    have := b2 q (by omega)
    rw [e1 _ (by omega), show 100 + (60 + 6 * p + q) = 160 + 6 * p + q by omega, this]
    show _ = nI (dG P p q)
    cases e : bt (dT P p) q with
    | true =>
      have hv := B.2.1 p q
      have lt : (0 : Int32) < nI (dG P p q + 1) := (nI_ltI (a := 0) (b := dG P p q + 1) (by omega) (by omega)).mpr (by omega)
      rw [if_pos rfl, if_pos lt, ← nI_1, Int32.add_sub_cancel]
    | false =>
      show (if (0 : Int32) < 0 then (0 : Int32) - 1 else 0) = _
      rw [if_neg (by decide), B.2.2.2 p q e]; rfl
theorem sr0 : ∀ t, t < 38 → (nI (srt t) = 0 ↔ t = 0) := by decide +kernel
theorem ypt_M {q : Nat} (hq : (ypv q || ytk q) = true) : xM q = true := by
  have e : q = 235 ∨ q = 241 ∨ q = 242 ∨ q = 243 ∨ q = 245 ∨ q = 247 ∨ q = 237 ∨ q = 238 ∨ q = 239 := by
    simp only [ypv, ytk, Bool.or_eq_true, Bool.and_eq_true, Nat.beq_eq, Nat.ble_eq] at hq; omega
  rcases e with rfl | rfl | rfl | rfl | rfl | rfl | rfl | rfl | rfl <;> rfl
def ycp (q : Nat) : Bool := Nat.beq q 241 || (Nat.beq q 242 || (Nat.beq q 243 || (Nat.beq q 244 || Nat.beq q 246)))
theorem m_prov2 {s : RS} {P : PD} {h3 : AH} (kO : TokOK (allT T)) (c : RM h L S H B M D T N) (F3 : Fr (fun q => ypv q || ytk q) h h3) (i1 : YV h3 g) (i2 : MF g (allT T) s) (i3 : s.2 = 0 → ∃ n, n ≤ s.1 ∧ PdM g P n) (hf : s.2 = 0) (i4 : PdO P) (i5 : PdB P) (i6 : dM P = dP P) (g2 : hI g 235 2 = 0) (pK : LandOK (pvL T) ∧ NamOK (pvL T) (pvN T)) (eP : prvA (allT T) = (s, P)) (h0 : ∀ h', Fr xM h h' → RM0 h' (pvL T) T (pvN T) H B D → Q (some (.int 0)) h') : Rw (d + 41) Q (m_X13_province, 74, [some (.ref 235), none], [], 262, g) := by
  obtain ⟨n, hn, p⟩ := i3 hf
  have k1 := kO.1
  have ps := i2.2.1
  have nN := i4.nm.1
  have e13 : hI g 235 13 = nI n := p.2.2.2.2.2.2.2.2.1
  have e19 : hI g 235 19 = nI (dN P).1 := p.2.2.2.2.2.2.1.1
  have nm := p.2.2.2.2.2.2.1.2
  simp only [if_true] at nm
  have eL : pvL T = pL P := (by unfold pvL; rw [eP])
  have eN : pvN T = dN P := (by unfold pvN; rw [eP])
  refine R_gs 76 rfl ?_
  refine w_inv (W := fun j (u : AH) => Rw (d + 41) Q (m_X13_province, 76, [some (.ref 235), some (.int (nI j))], [], 262, u)) 100 (fun j u => Fr (fun q => Nat.beq q 241) g u ∧ (∀ i, i < j → hI u 241 i = hI g 241 (100 + i)) ∧ ∀ i, 100 ≤ i → hI u 241 i = hI g 241 i) (s0 := g) ⟨Fr.refl _ g, fun i hi => absurd hi (Nat.not_lt_zero i), fun _ _ => rfl⟩ (fun j u hj hu w => ?_) (fun u hu => ?_)
  ·
    obtain ⟨a1, a2, a3⟩ := hu
    refine R_gs 79 rfl ?_
    refine W_bf rfl (fun e => absurd ((nI_leI (a := 100) (by omega) (by omega)).mp e) (by omega)) ?_
    refine R_gs 95 rfl ?_
    refine R_il rfl rfl (j := 100 + j) (ix_add (ix_lit 100) (ix_nI j)) (by omega) (a3 (100 + j) (by omega)) ?_
    refine R_is rfl rfl (ix_nI _) (by omega) ?_
    refine R_gs 76 rfl ?_
    rw [nI_1]; refine w _ ⟨a1.wI rfl, fun i hi => ?_, fun i hi => ?_⟩
    · rw [wI_at]; by_cases e : i = j; rw [if_pos e, e]; rw [if_neg e]; exact a2 i (by omega)
    · rw [wI_at, if_neg (by omega)]; exact a3 i hi
  ·
    obtain ⟨a1, a2, a3⟩ := hu
    refine R_gs 79 rfl ?_
    refine W_bt rfl (by decide) ?_
    refine R_gs 105 rfl ?_
    refine w_inv (W := fun j (v : AH) => Rw (d + 41) Q (m_X13_province, 105, [some (.ref 235), some (.int (nI j))], [], 262, v)) n (fun j v => Fr (fun q => Nat.beq q 242 || Nat.beq q 243) u v ∧ (∀ i, i < j → hI v 242 i = hI g 242 (1100 + i) ∧ hI v 243 i = hI g 243 (1100 + i)) ∧ ∀ i, 1100 ≤ i → hI v 242 i = hI g 242 i ∧ hI v 243 i = hI g 243 i) (s0 := u) ⟨Fr.refl _ u, fun i hi => absurd hi (Nat.not_lt_zero i), fun i _ => ⟨by rw [a1.I (b := 242) rfl], by rw [a1.I (b := 243) rfl]⟩⟩ (fun j v hj hv w => ?_) (fun v hv => ?_)
    ·
      obtain ⟨b1, b2, b3⟩ := hv
      have x13 : hI v 235 13 = nI n := (by rw [b1.I (b := 235) rfl, a1.I (b := 235) rfl]; exact e13)
      refine R_gs 110 rfl ?_
      try rw [x13]
      refine W_bf rfl (fun e => absurd ((nI_leI (by omega) (by omega)).mp e) (by omega)) ?_
      refine R_gs 127 rfl ?_
      refine R_il rfl rfl (j := 1100 + j) (ix_add (ix_lit 1100) (ix_nI j)) (by omega) (b3 (1100 + j) (by omega)).1 ?_
      refine R_is rfl rfl (ix_nI _) (by omega) ?_
      refine R_gs 143 rfl ?_
      refine R_il rfl rfl (j := 1100 + j) (ix_add (ix_lit 1100) (ix_nI j)) (by omega) (b3 (1100 + j) (by omega)).2 ?_
      refine R_is rfl rfl (ix_nI _) (by omega) ?_
      refine R_gs 105 rfl ?_
      rw [nI_1]; refine w _ ⟨(b1.wI rfl).wI rfl, fun i hi => ?_, fun i hi => ?_⟩
      · have w2 : hI (wI (wI v 242 j (hI g 242 (1100 + j))) 243 j (hI g 243 (1100 + j))) 242 i = if i = j then hI g 242 (1100 + j) else hI v 242 i := wI_at v 242 j (hI g 242 (1100 + j)) i; have w3 : hI (wI (wI v 242 j (hI g 242 (1100 + j))) 243 j (hI g 243 (1100 + j))) 243 i = if i = j then hI g 243 (1100 + j) else hI v 243 i := wI_at (wI v 242 j (hI g 242 (1100 + j))) 243 j (hI g 243 (1100 + j)) i; rw [w2, w3]; by_cases e : i = j; rw [if_pos e, if_pos e, e]; exact ⟨rfl, rfl⟩; rw [if_neg e, if_neg e]; exact b2 i (by omega)
      · have w2 : hI (wI (wI v 242 j (hI g 242 (1100 + j))) 243 j (hI g 243 (1100 + j))) 242 i = if i = j then hI g 242 (1100 + j) else hI v 242 i := wI_at v 242 j (hI g 242 (1100 + j)) i; have w3 : hI (wI (wI v 242 j (hI g 242 (1100 + j))) 243 j (hI g 243 (1100 + j))) 243 i = if i = j then hI g 243 (1100 + j) else hI v 243 i := wI_at (wI v 242 j (hI g 242 (1100 + j))) 243 j (hI g 243 (1100 + j)) i; rw [w2, w3, if_neg (by omega), if_neg (by omega)]; exact b3 i hi
    ·
      obtain ⟨b1, b2, b3⟩ := hv
      have x13 : hI v 235 13 = nI n := (by rw [b1.I (b := 235) rfl, a1.I (b := 235) rfl]; exact e13)
      refine R_gs 110 rfl ?_
      try rw [x13]
      refine W_bt rfl (Int32.le_refl _) ?_
      refine R_gs 153 rfl ?_
      refine w_inv (W := fun j (y : AH) => Rw (d + 41) Q (m_X13_province, 153, [some (.ref 235), some (.int (nI j))], [], 262, y)) (dN P).1 (fun j y => Fr (fun q => Nat.beq q 244 || Nat.beq q 246) v y ∧ ∀ i, i < j → hJ y 244 i = hJ g 245 i ∧ hI y 246 i = hI g 247 i) (s0 := v) ⟨Fr.refl _ v, fun i hi => absurd hi (Nat.not_lt_zero i)⟩ (fun j y hj hy w => ?_) (fun y hy => ?_)
      ·
        obtain ⟨d1, d2⟩ := hy
        have x19 : hI y 235 19 = nI (dN P).1 := (by rw [d1.I (b := 235) rfl, b1.I (b := 235) rfl, a1.I (b := 235) rfl]; exact e19)
        have x5 : hJ y 245 = hJ g 245 := (by rw [d1.J (b := 245) rfl, b1.J (b := 245) rfl, a1.J (b := 245) rfl])
        have x7 : hI y 247 = hI g 247 := (by rw [d1.I (b := 247) rfl, b1.I (b := 247) rfl, a1.I (b := 247) rfl])
        refine R_gs 158 rfl ?_
        try rw [x19]
        refine W_bf rfl (fun e => absurd ((nI_leI (by omega) (by omega)).mp e) (by omega)) ?_
        refine R_gs 171 rfl ?_
        refine R_ll rfl rfl (ix_nI _) (by omega) (v := hJ g 245 j) (by rw [x5]) ?_
        refine R_ls rfl rfl (ix_nI _) (by omega) ?_
        refine R_gs 183 rfl ?_
        refine R_il rfl rfl (ix_nI _) (by omega) (v := hI g 247 j) (congrFun x7 j) ?_
        refine R_is rfl rfl (ix_nI _) (by omega) ?_
        refine R_gs 153 rfl ?_
        rw [nI_1]; refine w _ ⟨(d1.wJ rfl).wI rfl, fun i hi => ?_⟩
        have w4 : hJ (wI (wJ y 244 j (hJ g 245 j)) 246 j (hI g 247 j)) 244 i = if i = j then hJ g 245 j else hJ y 244 i := wJ_at y 244 j (hJ g 245 j) i
        have w6 : hI (wI (wJ y 244 j (hJ g 245 j)) 246 j (hI g 247 j)) 246 i = if i = j then hI g 247 j else hI y 246 i := wI_at (wJ y 244 j (hJ g 245 j)) 246 j (hI g 247 j) i
        rw [w4, w6]; by_cases e : i = j; rw [if_pos e, if_pos e, e]; exact ⟨rfl, rfl⟩; rw [if_neg e, if_neg e]; exact d2 i (by omega)
      ·
        obtain ⟨d1, d2⟩ := hy
        have x19 : hI y 235 19 = nI (dN P).1 := (by rw [d1.I (b := 235) rfl, b1.I (b := 235) rfl, a1.I (b := 235) rfl]; exact e19)
        refine R_gs 158 rfl ?_
        try rw [x19]
        refine W_bt rfl (Int32.le_refl _) ?_
        refine R_gs 200 rfl ?_
        try rw [x19]
        have G1 : Fr ycp g (wI y 235 18 (nI (dN P).1)) ∨ True := Or.inr trivial
        have l1 : ∀ j, j < 100 → hI (wI y 235 18 (nI (dN P).1)) 241 j = hI g 241 (100 + j) := fun j hj => by show hI y 241 j = _; rw [d1.I (b := 241) rfl, b1.I (b := 241) rfl]; exact a2 j hj
        have l2 : ∀ j, j < n → hI (wI y 235 18 (nI (dN P).1)) 242 j = hI g 242 (1100 + j) ∧ hI (wI y 235 18 (nI (dN P).1)) 243 j = hI g 243 (1100 + j) := fun j hj => by show hI y 242 j = _ ∧ hI y 243 j = _; rw [d1.I (b := 242) rfl, d1.I (b := 243) rfl]; exact b2 j hj
        have hL := pdm_land (h' := wI y 235 18 (nI (dN P).1)) p i4 i5 i6 (by omega) l1 l2
        rw [← eL] at hL
        refine R_k rfl rfl (m_begins hL pK.1 (fun h9 f9 q9 s9 z34 z0 z25 z52 => ?_))
        refine R_gs 204 rfl ?_
        refine W_f rfl (by first | rfl | exact ⟨rfl, by first | decide | assumption | exact Or.inl rfl | exact Or.inr rfl | exact b2i_01 _⟩) ?_
        have Y9 : ∀ k, k ≠ 25 → k ≠ 18 → hI h9 235 k = hI g 235 k := fun k hk hk2 => by rw [q9 k hk]; show hI (wI y 235 18 _) 235 k = _; rw [wI_at, if_neg hk2, d1.I (b := 235) rfl, b1.I (b := 235) rfl, a1.I (b := 235) rfl]
        have FA : Fr xM h h9 := (((((F3.mono (fun q hq => ypt_M hq)).trans (i1.1.mono (fun q hq => ypt_M (by rw [hq]; rfl)))).trans (a1.mono (fun q hq => by have := Nat.eq_of_beq_eq_true hq; subst this; rfl))).trans (b1.mono (fun q hq => by simp only [Bool.or_eq_true, Nat.beq_eq] at hq; rcases hq with rfl | rfl <;> rfl))).trans (d1.mono (fun q hq => by simp only [Bool.or_eq_true, Nat.beq_eq] at hq; rcases hq with rfl | rfl <;> rfl))).wI rfl |>.trans (f9.mono (fun q hq => by simp only [ybg, Bool.or_eq_true, Nat.beq_eq] at hq; rcases hq with rfl | rfl | rfl | rfl <;> rfl))
        refine h0 _ FA ⟨hL.fr f9 rfl rfl rfl, s9, ⟨z34, fun i hi => absurd hi (Nat.not_lt_zero i)⟩, ⟨z25, fun k hk => absurd hk (Nat.not_lt_zero k)⟩, fun m hm => ⟨z52 m hm, fun U hU => absurd hU (by simp)⟩, ⟨z0, fun k hk => absurd hk (Nat.not_lt_zero k)⟩, ⟨(Y9 2 (by decide) (by decide)).trans g2, fun i hi => absurd hi (Nat.not_lt_zero i)⟩, ?_⟩
        rw [eN]
        refine ⟨(q9 18 (by decide)).trans rfl, fun k hk => ?_⟩
        rw [f9.J (b := 244) rfl, f9.I (b := 246) rfl]
        show hJ y 244 k = _ ∧ hI y 246 k = _
        rw [(d2 k hk).1, (d2 k hk).2]; exact nm k hk
theorem m_province (wd : WrdM h) (W : WOK L S H B M D T N) (c : RM h L S H B M D T N) (h1 : ∀ h', Fr xM h h' → ¬ pvF T = 0 → RM h' L S H B M D (0, T.2) N → Q (some (.int (nI (pvF T)))) h') (h0 : ∀ h', Fr xM h h' → pvF T = 0 → RM0 h' (pvL T) T (pvN T) H B D → Q (some (.int 0)) h') : Rc (d + 42) m_X13_province [.ref 235] h Q := by
  have hO := W.1
  have tO := W.2.2.2.2.2.2.1
  have kO := tok_ok tO
  have k1 := kO.1
  have pI := prvA_I kO
  have pK := pv_ok tO
  unfold pvF at h1 h0 pK
  have c0 := c.thr
  refine R_in rfl rfl ?_
  refine R_gs 6 rfl ?_
  refine R_k rfl rfl (m_cutAll c0.2.2.2.2.2.2.1 tO (fun h2 f2 e2 z2 z7 z8 t2 w2 => ?_))
  refine R_gs 27 rfl ?_
  refine R_k rfl rfl (m_stands (b := 100) (by omega) (fun h3 f3 u3 a3 b3 d3 => ?_))
  have g3 : ∀ k, hI h3 235 k = hI (wI (wI (wI h2 235 13 0) 235 19 0) 235 20 0) 235 k := fun k => by rw [f3.I (b := 235) rfl]
  have c3 : MF h3 (allT T) (0, 0) := ⟨fun i hi => by have := t2 i hi; unfold TkY at *; rw [f3.I (b := 237) rfl, f3.I (b := 238) rfl, f3.J (b := 239) rfl]; exact this, kO.2.2.1, (g3 7).trans z7, (g3 8).trans z8, Nat.zero_le _, fun w hw => by rw [f3.J (b := 240) rfl]; show hJ h2 240 w = _; rw [f2.J (b := 240) rfl]; exact wd w hw⟩
  have p3 : PdM h3 D0 0 := ⟨d3 0 (by omega) (by omega) (by omega), d3 1 (by omega) (by omega) (by omega), d3 2 (by omega) (by omega) (by omega), d3 5 (by omega) (by omega) (by omega), fun q hq => absurd hq (Nat.not_lt_zero q), fun q hq => ⟨fun w hw => (by have := d3 (26 + 5 * q + w) (by omega) (by omega) (by omega); rw [show 100 + (26 + 5 * q + w) = 126 + 5 * q + w by omega] at this; exact this), fun r hr => (by have := d3 (60 + 6 * q + r) (by omega) (by omega) (by omega); rw [show 100 + (60 + 6 * q + r) = 160 + 6 * q + r by omega] at this; rw [this]; show (0 : Int32) = if bt 0 r = true then _ else _; rw [b_0]; rfl)⟩, ⟨g3 19, fun i hi => absurd hi (Nat.not_lt_zero i)⟩, ⟨by rw [g3 20]; exact b_0 0, by rw [g3 20]; exact b_0 1⟩, g3 13, Or.inl ⟨rfl, a3, rfl⟩, Or.inl ⟨rfl, b3, rfl⟩⟩
  have D9 := D0_o
  have F3 : Fr (fun q => ypv q || ytk q) h h3 := ((((((Fr.refl _ h).wI rfl).trans (f2.mono (fun q hq => by rw [hq, Bool.or_true]))).wI rfl).wI rfl).wI rfl).trans (f3.mono (fun q hq => by have := Nat.eq_of_beq_eq_true hq; subst this; rfl))
  have h241 : ∀ j, j < 100 → hI h3 241 j = hI h 241 j := fun j hj => by rw [u3 j (Or.inl hj)]; show hI h2 241 j = _; rw [f2.I (b := 241) rfl]; rfl
  have h242 : hI h3 242 = hI h 242 := (by rw [f3.I (b := 242) rfl]; show hI h2 242 = _; rw [f2.I (b := 242) rfl]; rfl)
  have h243 : hI h3 243 = hI h 243 := (by rw [f3.I (b := 243) rfl]; show hI h2 243 = _; rw [f2.I (b := 243) rfl]; rfl)
  have q2 : hI h3 235 2 = 0 := (g3 2).trans z2
  have q25 : hI h3 235 25 = hI h 235 25 := (g3 25).trans (e2 25 (by decide) (by decide) (by decide) (by decide))
  have q18 : hI h3 235 18 = hI h 235 18 := (g3 18).trans (e2 18 (by decide) (by decide) (by decide) (by decide))
  refine w_meas (W := fun (y : AH × Nat × RS × PD) => Rw (d + 41) Q (m_X13_province, 30, [some (.ref 235), none], [], 262, y.1)) (fun y => YV h3 y.1 ∧ MdI y.1 (allT T) y.2.2.1 y.2.2.2 ∧ PdO y.2.2.2 ∧ PdB y.2.2.2 ∧ (y.2.2.1.2 = 0 → dM y.2.2.2 = dP y.2.2.2) ∧ (y.2.2.1.2 = 0 → (allT T).1 ≤ y.2.1 + y.2.2.1.1) ∧ prvA (allT T) = lns (allT T) y.2.1 y.2.2.1 y.2.2.2) (fun y => if y.2.2.1.2 = 0 then (allT T).1 - y.2.2.1.1 + 1 else 0) (s0 := (h3, 1001, (0, 0), D0)) ⟨YV.refl _, ⟨c3, fun _ => ⟨0, Nat.zero_le _, p3⟩⟩, D9.1, D9.2.1, fun _ => D9.2.2, fun _ => by dsimp only; omega, rfl⟩ (fun y hi w => ?_)
  ·
    obtain ⟨g, m, s, P⟩ := y
    obtain ⟨i1, ⟨i2, i3⟩, i4, i5, i6, i7, i8⟩ := hi
    dsimp only at i1 i2 i3 i4 i5 i6 i7 i8 ⊢
    have ps := i2.2.1
    have y1 := (i2.1 s.1 i2.2.1).1
    have t1 : tk (allT T) s.1 < 38 := (i2.tg kO).1
    have sr : nI (srt (tk (allT T) s.1)) = 0 ↔ tk (allT T) s.1 = 0 := sr0 _ t1
    refine R_gs 34 rfl ?_
    refine W_b rfl (fun hc34 => ?_) (fun hc34 => ?_)
    ·
      rw [i2.fz] at hc34
      refine R_gs 45 rfl ?_
      refine R_il rfl rfl (j := s.1) i2.2.2.1 (by omega) y1 ?_
      refine W_b rfl (fun hc46 => ?_) (fun hc46 => ?_)
      ·
        refine R_gs 66 rfl ?_
        have hx : ¬ (s.2 = 0 ∧ tk (allT T) s.1 ≠ 0) := fun e => e.2 (sr.mp hc46)
        rw [lns_e (Or.inr hx)] at i8
        rw [i8] at h1 h0 pI pK
        refine W_b rfl (fun hc66 => ?_) (fun hc66 => ?_)
        ·
          rw [i2.fl] at hc66
          exact m_prov2 kO c F3 i1 i2 i3 hc66 i4 i5 (i6 hc66) ((i1.2.2.2 2 (by decide) (by decide) (by decide) (by decide) (by decide)).trans q2) (pK hc66) i8 (fun h' f' r' => h0 h' f' hc66 r')
        ·
          rw [i2.fl] at hc66
          refine R_gs 73 rfl ?_
          refine W_f rfl (by first | rfl | exact ⟨rfl, by first | decide | assumption | exact Or.inl rfl | exact Or.inr rfl | exact b2i_01 _⟩) ?_
          rw [i2.2.2.2.1]; refine h1 _ ?_ hc66 (c.yv hO (F3.trans (i1.1.mono (fun q hq => by rw [hq]; rfl))) (fun j hj => (i1.2.1 j hj).trans (h241 j hj)) (fun j hj => ⟨(i1.2.2.1 j hj).1.trans (congrFun h242 j), (i1.2.2.1 j hj).2.trans (congrFun h243 j)⟩) ((i1.2.2.2 2 (by decide) (by decide) (by decide) (by decide) (by decide)).trans q2) ((i1.2.2.2 25 (by decide) (by decide) (by decide) (by decide) (by decide)).trans q25) ((i1.2.2.2 18 (by decide) (by decide) (by decide) (by decide) (by decide)).trans q18))
          exact (F3.trans (i1.1.mono (fun q hq => by rw [hq]; rfl))).mono (fun q hq => ypt_M hq)
      ·
        refine R_gs 50 rfl ?_
        obtain ⟨n4, hn4, p4⟩ := i3 hc34
        have o4 := lnA_o kO ps i4 i5 (i6 hc34)
        refine R_k rfl rfl (m_readLine kO hc34 i2 p4 hn4 i4 i5 (i6 hc34) (fun h4 v4 c4 e4 => ?_))
        refine R_gs 56 rfl ?_
        refine R_k rfl rfl (m_takeSign (t := 6) kO (by decide) (by decide) c4 (fun h5 m5 c5 => ?_))
        refine R_gs 30 rfl ?_
        have mm := i7 hc34
        refine w (h5, m - 1, ex (allT T) 6 (lnA (allT T) s P).1, (lnA (allT T) s P).2) ⟨(i1.trans v4).trans m5.v, ⟨c5, fun e => ?_⟩, o4.1, o4.2.1, fun e => o4.2.2 (ex_z e).1, fun e => ?_, by dsimp only; rw [i8, lns_s (by omega) ⟨hc34, fun e => hc46 (sr.mpr e)⟩]⟩ ?_
        · obtain ⟨n5, q1, q2⟩ := e4 (ex_z e).1; exact ⟨n5, Nat.le_trans q1 (ex_le (Nat.le_refl _)), q2.mr m5⟩
        · have := ex_gt kO (by decide : 6 ≠ 0) (lnA_p kO ps) e; have := lnA_ge (D := P) kO ps; dsimp only at e ⊢; omega
        · dsimp only; rw [if_pos hc34]; by_cases e : (ex (allT T) 6 (lnA (allT T) s P).1).2 = 0; rw [if_pos e]; have := ex_gt kO (by decide : 6 ≠ 0) (lnA_p kO ps) e; have := lnA_ge (D := P) kO ps; have := ex_p (t := 6) kO (lnA_p (D := P) kO ps); omega; rw [if_neg e]; omega
    ·
      rw [i2.fz] at hc34
      refine R_gs 66 rfl ?_
      have hx : ¬ (s.2 = 0 ∧ tk (allT T) s.1 ≠ 0) := fun e => hc34 e.1
      rw [lns_e (Or.inr hx)] at i8
      rw [i8] at h1 h0 pI pK
      refine W_b rfl (fun hc66 => ?_) (fun hc66 => ?_)
      ·
        rw [i2.fl] at hc66
        exact m_prov2 kO c F3 i1 i2 i3 hc66 i4 i5 (i6 hc66) ((i1.2.2.2 2 (by decide) (by decide) (by decide) (by decide) (by decide)).trans q2) (pK hc66) i8 (fun h' f' r' => h0 h' f' hc66 r')
      ·
        rw [i2.fl] at hc66
        refine R_gs 73 rfl ?_
        refine W_f rfl (by first | rfl | exact ⟨rfl, by first | decide | assumption | exact Or.inl rfl | exact Or.inr rfl | exact b2i_01 _⟩) ?_
        rw [i2.2.2.2.1]; refine h1 _ ?_ hc66 (c.yv hO (F3.trans (i1.1.mono (fun q hq => by rw [hq]; rfl))) (fun j hj => (i1.2.1 j hj).trans (h241 j hj)) (fun j hj => ⟨(i1.2.2.1 j hj).1.trans (congrFun h242 j), (i1.2.2.1 j hj).2.trans (congrFun h243 j)⟩) ((i1.2.2.2 2 (by decide) (by decide) (by decide) (by decide) (by decide)).trans q2) ((i1.2.2.2 25 (by decide) (by decide) (by decide) (by decide) (by decide)).trans q25) ((i1.2.2.2 18 (by decide) (by decide) (by decide) (by decide) (by decide)).trans q18))
        exact (F3.trans (i1.1.mono (fun q hq => by rw [hq]; rfl))).mono (fun q hq => ypt_M hq)
end
